section
-- ===== PART A: goes FIRST, ahead of the names: the tables' words, and 'selects' of the private methods out of them =====
/-- a private method of a class that the tables say can be made, by its rows of tables_1 -/
def lw_okq (q : MethodName × Nat) : Prop := (q.1.cls ≠ "java/lang/invoke/MethodHandle" ∧ q.1.cls ≠ "java/lang/invoke/VarHandle") ∧ Cond.instantiable q.1.cls q.2 ∈ tables_1 ∧ Cond.privateMethod q.1 ∈ tables_1 ∧ Cond.instanceMethod q.1 ∈ tables_1
theorem lw_p0 : lw_okq (⟨"FiguredBass", "bestWay", "(I)I"⟩, 6) := ⟨⟨by decide +kernel, by decide +kernel⟩, List.mem_of_getElem? (i := 11) (by decide +kernel), List.mem_of_getElem? (i := 47) (by decide +kernel), List.mem_of_getElem? (i := 48) (by decide +kernel)⟩
theorem lw_p1 : lw_okq (⟨"FiguredBass", "noteAt", "(II)I"⟩, 6) := ⟨⟨by decide +kernel, by decide +kernel⟩, List.mem_of_getElem? (i := 11) (by decide +kernel), List.mem_of_getElem? (i := 51) (by decide +kernel), List.mem_of_getElem? (i := 52) (by decide +kernel)⟩
theorem lw_p2 : lw_okq (⟨"FiguredBass", "listWays", "(I)I"⟩, 6) := ⟨⟨by decide +kernel, by decide +kernel⟩, List.mem_of_getElem? (i := 11) (by decide +kernel), List.mem_of_getElem? (i := 55) (by decide +kernel), List.mem_of_getElem? (i := 56) (by decide +kernel)⟩
theorem lw_p3 : lw_okq (⟨"FiguredBass", "belongs", "(II)Z"⟩, 6) := ⟨⟨by decide +kernel, by decide +kernel⟩, List.mem_of_getElem? (i := 11) (by decide +kernel), List.mem_of_getElem? (i := 63) (by decide +kernel), List.mem_of_getElem? (i := 64) (by decide +kernel)⟩
theorem lw_p4 : lw_okq (⟨"FiguredBass", "listSopranos", "(IIII)I"⟩, 6) := ⟨⟨by decide +kernel, by decide +kernel⟩, List.mem_of_getElem? (i := 11) (by decide +kernel), List.mem_of_getElem? (i := 75) (by decide +kernel), List.mem_of_getElem? (i := 76) (by decide +kernel)⟩
theorem lw_p5 : lw_okq (⟨"FiguredBass", "isRightWith", "(IIII)Z"⟩, 6) := ⟨⟨by decide +kernel, by decide +kernel⟩, List.mem_of_getElem? (i := 11) (by decide +kernel), List.mem_of_getElem? (i := 79) (by decide +kernel), List.mem_of_getElem? (i := 80) (by decide +kernel)⟩
theorem lw_p6 : lw_okq (⟨"FiguredBass", "putWay", "(II)V"⟩, 6) := ⟨⟨by decide +kernel, by decide +kernel⟩, List.mem_of_getElem? (i := 11) (by decide +kernel), List.mem_of_getElem? (i := 83) (by decide +kernel), List.mem_of_getElem? (i := 84) (by decide +kernel)⟩
theorem lw_p7 : lw_okq (⟨"FiguredBass", "putNotes", "(IIII)V"⟩, 6) := ⟨⟨by decide +kernel, by decide +kernel⟩, List.mem_of_getElem? (i := 11) (by decide +kernel), List.mem_of_getElem? (i := 87) (by decide +kernel), List.mem_of_getElem? (i := 88) (by decide +kernel)⟩
theorem lw_p8 : lw_okq (⟨"FiguredBass", "costOf", "(I)I"⟩, 6) := ⟨⟨by decide +kernel, by decide +kernel⟩, List.mem_of_getElem? (i := 11) (by decide +kernel), List.mem_of_getElem? (i := 91) (by decide +kernel), List.mem_of_getElem? (i := 92) (by decide +kernel)⟩
theorem lw_p9 : lw_okq (⟨"FiguredBass", "isSet", "(I)Z"⟩, 6) := ⟨⟨by decide +kernel, by decide +kernel⟩, List.mem_of_getElem? (i := 11) (by decide +kernel), List.mem_of_getElem? (i := 95) (by decide +kernel), List.mem_of_getElem? (i := 96) (by decide +kernel)⟩
theorem lw_p10 : lw_okq (⟨"FiguredBass", "isChord", "(I)Z"⟩, 6) := ⟨⟨by decide +kernel, by decide +kernel⟩, List.mem_of_getElem? (i := 11) (by decide +kernel), List.mem_of_getElem? (i := 99) (by decide +kernel), List.mem_of_getElem? (i := 100) (by decide +kernel)⟩
theorem lw_p11 : lw_okq (⟨"FiguredBass", "isRight", "(I)Z"⟩, 6) := ⟨⟨by decide +kernel, by decide +kernel⟩, List.mem_of_getElem? (i := 11) (by decide +kernel), List.mem_of_getElem? (i := 103) (by decide +kernel), List.mem_of_getElem? (i := 104) (by decide +kernel)⟩
theorem lw_p12 : lw_okq (⟨"FiguredBass", "stepsGone", "(I)I"⟩, 6) := ⟨⟨by decide +kernel, by decide +kernel⟩, List.mem_of_getElem? (i := 11) (by decide +kernel), List.mem_of_getElem? (i := 107) (by decide +kernel), List.mem_of_getElem? (i := 108) (by decide +kernel)⟩
theorem lw_p13 : lw_okq (⟨"FiguredBass", "follows", "(I)Z"⟩, 6) := ⟨⟨by decide +kernel, by decide +kernel⟩, List.mem_of_getElem? (i := 11) (by decide +kernel), List.mem_of_getElem? (i := 111) (by decide +kernel), List.mem_of_getElem? (i := 112) (by decide +kernel)⟩
theorem lw_p14 : lw_okq (⟨"FiguredBass", "faultsOf", "(II)I"⟩, 6) := ⟨⟨by decide +kernel, by decide +kernel⟩, List.mem_of_getElem? (i := 11) (by decide +kernel), List.mem_of_getElem? (i := 118) (by decide +kernel), List.mem_of_getElem? (i := 119) (by decide +kernel)⟩
theorem lw_p15 : lw_okq (⟨"FiguredBass", "parallels", "(II)I"⟩, 6) := ⟨⟨by decide +kernel, by decide +kernel⟩, List.mem_of_getElem? (i := 11) (by decide +kernel), List.mem_of_getElem? (i := 122) (by decide +kernel), List.mem_of_getElem? (i := 123) (by decide +kernel)⟩
def lw_privs_1 : List (MethodName × Nat) := [(⟨"FiguredBass", "bestWay", "(I)I"⟩, 6), (⟨"FiguredBass", "noteAt", "(II)I"⟩, 6), (⟨"FiguredBass", "listWays", "(I)I"⟩, 6), (⟨"FiguredBass", "belongs", "(II)Z"⟩, 6), (⟨"FiguredBass", "listSopranos", "(IIII)I"⟩, 6), (⟨"FiguredBass", "isRightWith", "(IIII)Z"⟩, 6), (⟨"FiguredBass", "putWay", "(II)V"⟩, 6), (⟨"FiguredBass", "putNotes", "(IIII)V"⟩, 6), (⟨"FiguredBass", "costOf", "(I)I"⟩, 6), (⟨"FiguredBass", "isSet", "(I)Z"⟩, 6), (⟨"FiguredBass", "isChord", "(I)Z"⟩, 6), (⟨"FiguredBass", "isRight", "(I)Z"⟩, 6), (⟨"FiguredBass", "stepsGone", "(I)I"⟩, 6), (⟨"FiguredBass", "follows", "(I)Z"⟩, 6), (⟨"FiguredBass", "faultsOf", "(II)I"⟩, 6), (⟨"FiguredBass", "parallels", "(II)I"⟩, 6)]
theorem lw_r1 : ∀ q ∈ lw_privs_1, lw_okq q := List.forall_mem_cons.mpr ⟨lw_p0, List.forall_mem_cons.mpr ⟨lw_p1, List.forall_mem_cons.mpr ⟨lw_p2, List.forall_mem_cons.mpr ⟨lw_p3, List.forall_mem_cons.mpr ⟨lw_p4, List.forall_mem_cons.mpr ⟨lw_p5, List.forall_mem_cons.mpr ⟨lw_p6, List.forall_mem_cons.mpr ⟨lw_p7, List.forall_mem_cons.mpr ⟨lw_p8, List.forall_mem_cons.mpr ⟨lw_p9, List.forall_mem_cons.mpr ⟨lw_p10, List.forall_mem_cons.mpr ⟨lw_p11, List.forall_mem_cons.mpr ⟨lw_p12, List.forall_mem_cons.mpr ⟨lw_p13, List.forall_mem_cons.mpr ⟨lw_p14, List.forall_mem_cons.mpr ⟨lw_p15, fun _ h => absurd h List.not_mem_nil⟩⟩⟩⟩⟩⟩⟩⟩⟩⟩⟩⟩⟩⟩⟩⟩
theorem lw_p16 : lw_okq (⟨"FiguredBass", "moves", "(II)Z"⟩, 6) := ⟨⟨by decide +kernel, by decide +kernel⟩, List.mem_of_getElem? (i := 11) (by decide +kernel), List.mem_of_getElem? (i := 126) (by decide +kernel), List.mem_of_getElem? (i := 127) (by decide +kernel)⟩
theorem lw_p17 : lw_okq (⟨"FiguredBass", "isInterval", "(IIII)Z"⟩, 6) := ⟨⟨by decide +kernel, by decide +kernel⟩, List.mem_of_getElem? (i := 11) (by decide +kernel), List.mem_of_getElem? (i := 130) (by decide +kernel), List.mem_of_getElem? (i := 131) (by decide +kernel)⟩
theorem lw_p18 : lw_okq (⟨"FiguredBass", "pitchOf", "(I)I"⟩, 6) := ⟨⟨by decide +kernel, by decide +kernel⟩, List.mem_of_getElem? (i := 11) (by decide +kernel), List.mem_of_getElem? (i := 134) (by decide +kernel), List.mem_of_getElem? (i := 135) (by decide +kernel)⟩
theorem lw_p19 : lw_okq (⟨"FiguredBass", "isHidden", "(I)Z"⟩, 6) := ⟨⟨by decide +kernel, by decide +kernel⟩, List.mem_of_getElem? (i := 11) (by decide +kernel), List.mem_of_getElem? (i := 142) (by decide +kernel), List.mem_of_getElem? (i := 143) (by decide +kernel)⟩
theorem lw_p20 : lw_okq (⟨"FiguredBass", "voicesAtFault", "(II)I"⟩, 6) := ⟨⟨by decide +kernel, by decide +kernel⟩, List.mem_of_getElem? (i := 11) (by decide +kernel), List.mem_of_getElem? (i := 146) (by decide +kernel), List.mem_of_getElem? (i := 147) (by decide +kernel)⟩
theorem lw_p21 : lw_okq (⟨"FiguredBass", "isAtFault", "(III)Z"⟩, 6) := ⟨⟨by decide +kernel, by decide +kernel⟩, List.mem_of_getElem? (i := 11) (by decide +kernel), List.mem_of_getElem? (i := 150) (by decide +kernel), List.mem_of_getElem? (i := 151) (by decide +kernel)⟩
theorem lw_p22 : lw_okq (⟨"FiguredBass", "countOf", "(I)I"⟩, 6) := ⟨⟨by decide +kernel, by decide +kernel⟩, List.mem_of_getElem? (i := 11) (by decide +kernel), List.mem_of_getElem? (i := 158) (by decide +kernel), List.mem_of_getElem? (i := 159) (by decide +kernel)⟩
theorem lw_p23 : lw_okq (⟨"FiguredBass", "allFaultsOf", "(I)I"⟩, 6) := ⟨⟨by decide +kernel, by decide +kernel⟩, List.mem_of_getElem? (i := 11) (by decide +kernel), List.mem_of_getElem? (i := 162) (by decide +kernel), List.mem_of_getElem? (i := 163) (by decide +kernel)⟩
theorem lw_p24 : lw_okq (⟨"FiguredBass", "tellOf", "(II)I"⟩, 6) := ⟨⟨by decide +kernel, by decide +kernel⟩, List.mem_of_getElem? (i := 11) (by decide +kernel), List.mem_of_getElem? (i := 172) (by decide +kernel), List.mem_of_getElem? (i := 173) (by decide +kernel)⟩
theorem lw_p25 : lw_okq (⟨"java/lang/Throwable", "fillInStackTrace", "(I)Ljava/lang/Throwable;"⟩, 6) := ⟨⟨by decide +kernel, by decide +kernel⟩, List.mem_of_getElem? (i := 226) (by decide +kernel), List.mem_of_getElem? (i := 224) (by decide +kernel), List.mem_of_getElem? (i := 225) (by decide +kernel)⟩
theorem lw_p26 : lw_okq (⟨"FiguredBass", "exchangeNote", "(III)I"⟩, 6) := ⟨⟨by decide +kernel, by decide +kernel⟩, List.mem_of_getElem? (i := 11) (by decide +kernel), List.mem_of_getElem? (i := 300) (by decide +kernel), List.mem_of_getElem? (i := 301) (by decide +kernel)⟩
theorem lw_p27 : lw_okq (⟨"FiguredBassModel", "no", "(I)I"⟩, 6) := ⟨⟨by decide +kernel, by decide +kernel⟩, List.mem_of_getElem? (i := 429) (by decide +kernel), List.mem_of_getElem? (i := 472) (by decide +kernel), List.mem_of_getElem? (i := 473) (by decide +kernel)⟩
theorem lw_p28 : lw_okq (⟨"FiguredBassModel", "let", "(IIII)V"⟩, 6) := ⟨⟨by decide +kernel, by decide +kernel⟩, List.mem_of_getElem? (i := 429) (by decide +kernel), List.mem_of_getElem? (i := 476) (by decide +kernel), List.mem_of_getElem? (i := 477) (by decide +kernel)⟩
theorem lw_p29 : lw_okq (⟨"FiguredBassModel", "isChord", "(I)Z"⟩, 6) := ⟨⟨by decide +kernel, by decide +kernel⟩, List.mem_of_getElem? (i := 429) (by decide +kernel), List.mem_of_getElem? (i := 484) (by decide +kernel), List.mem_of_getElem? (i := 485) (by decide +kernel)⟩
theorem lw_p30 : lw_okq (⟨"FiguredBassModel", "at", "(II)I"⟩, 6) := ⟨⟨by decide +kernel, by decide +kernel⟩, List.mem_of_getElem? (i := 429) (by decide +kernel), List.mem_of_getElem? (i := 488) (by decide +kernel), List.mem_of_getElem? (i := 489) (by decide +kernel)⟩
theorem lw_p31 : lw_okq (⟨"FiguredBassModel", "isLed", "(I)Z"⟩, 6) := ⟨⟨by decide +kernel, by decide +kernel⟩, List.mem_of_getElem? (i := 429) (by decide +kernel), List.mem_of_getElem? (i := 516) (by decide +kernel), List.mem_of_getElem? (i := 517) (by decide +kernel)⟩
def lw_privs_2 : List (MethodName × Nat) := [(⟨"FiguredBass", "moves", "(II)Z"⟩, 6), (⟨"FiguredBass", "isInterval", "(IIII)Z"⟩, 6), (⟨"FiguredBass", "pitchOf", "(I)I"⟩, 6), (⟨"FiguredBass", "isHidden", "(I)Z"⟩, 6), (⟨"FiguredBass", "voicesAtFault", "(II)I"⟩, 6), (⟨"FiguredBass", "isAtFault", "(III)Z"⟩, 6), (⟨"FiguredBass", "countOf", "(I)I"⟩, 6), (⟨"FiguredBass", "allFaultsOf", "(I)I"⟩, 6), (⟨"FiguredBass", "tellOf", "(II)I"⟩, 6), (⟨"java/lang/Throwable", "fillInStackTrace", "(I)Ljava/lang/Throwable;"⟩, 6), (⟨"FiguredBass", "exchangeNote", "(III)I"⟩, 6), (⟨"FiguredBassModel", "no", "(I)I"⟩, 6), (⟨"FiguredBassModel", "let", "(IIII)V"⟩, 6), (⟨"FiguredBassModel", "isChord", "(I)Z"⟩, 6), (⟨"FiguredBassModel", "at", "(II)I"⟩, 6), (⟨"FiguredBassModel", "isLed", "(I)Z"⟩, 6)]
theorem lw_r2 : ∀ q ∈ lw_privs_2, lw_okq q := List.forall_mem_cons.mpr ⟨lw_p16, List.forall_mem_cons.mpr ⟨lw_p17, List.forall_mem_cons.mpr ⟨lw_p18, List.forall_mem_cons.mpr ⟨lw_p19, List.forall_mem_cons.mpr ⟨lw_p20, List.forall_mem_cons.mpr ⟨lw_p21, List.forall_mem_cons.mpr ⟨lw_p22, List.forall_mem_cons.mpr ⟨lw_p23, List.forall_mem_cons.mpr ⟨lw_p24, List.forall_mem_cons.mpr ⟨lw_p25, List.forall_mem_cons.mpr ⟨lw_p26, List.forall_mem_cons.mpr ⟨lw_p27, List.forall_mem_cons.mpr ⟨lw_p28, List.forall_mem_cons.mpr ⟨lw_p29, List.forall_mem_cons.mpr ⟨lw_p30, List.forall_mem_cons.mpr ⟨lw_p31, fun _ h => absurd h List.not_mem_nil⟩⟩⟩⟩⟩⟩⟩⟩⟩⟩⟩⟩⟩⟩⟩⟩
theorem lw_p32 : lw_okq (⟨"FiguredBassModel", "led", "(I)[I"⟩, 6) := ⟨⟨by decide +kernel, by decide +kernel⟩, List.mem_of_getElem? (i := 429) (by decide +kernel), List.mem_of_getElem? (i := 520) (by decide +kernel), List.mem_of_getElem? (i := 521) (by decide +kernel)⟩
theorem lw_p33 : lw_okq (⟨"FiguredBassModel", "isRight", "(I)Z"⟩, 6) := ⟨⟨by decide +kernel, by decide +kernel⟩, List.mem_of_getElem? (i := 429) (by decide +kernel), List.mem_of_getElem? (i := 533) (by decide +kernel), List.mem_of_getElem? (i := 534) (by decide +kernel)⟩
theorem lw_p34 : lw_okq (⟨"FiguredBassModel", "isSet", "(I)Z"⟩, 6) := ⟨⟨by decide +kernel, by decide +kernel⟩, List.mem_of_getElem? (i := 429) (by decide +kernel), List.mem_of_getElem? (i := 537) (by decide +kernel), List.mem_of_getElem? (i := 538) (by decide +kernel)⟩
theorem lw_p35 : lw_okq (⟨"FiguredBassModel", "cost", "(I)I"⟩, 6) := ⟨⟨by decide +kernel, by decide +kernel⟩, List.mem_of_getElem? (i := 429) (by decide +kernel), List.mem_of_getElem? (i := 541) (by decide +kernel), List.mem_of_getElem? (i := 542) (by decide +kernel)⟩
theorem lw_p36 : lw_okq (⟨"FiguredBassModel", "steps", "(I)I"⟩, 6) := ⟨⟨by decide +kernel, by decide +kernel⟩, List.mem_of_getElem? (i := 429) (by decide +kernel), List.mem_of_getElem? (i := 545) (by decide +kernel), List.mem_of_getElem? (i := 546) (by decide +kernel)⟩
theorem lw_p37 : lw_okq (⟨"FiguredBassModel", "isPair", "(I)Z"⟩, 6) := ⟨⟨by decide +kernel, by decide +kernel⟩, List.mem_of_getElem? (i := 429) (by decide +kernel), List.mem_of_getElem? (i := 549) (by decide +kernel), List.mem_of_getElem? (i := 550) (by decide +kernel)⟩
theorem lw_p38 : lw_okq (⟨"FiguredBassModel", "goes", "(II)I"⟩, 6) := ⟨⟨by decide +kernel, by decide +kernel⟩, List.mem_of_getElem? (i := 429) (by decide +kernel), List.mem_of_getElem? (i := 553) (by decide +kernel), List.mem_of_getElem? (i := 554) (by decide +kernel)⟩
theorem lw_p39 : lw_okq (⟨"FiguredBassModel", "faultsOf", "(II)I"⟩, 6) := ⟨⟨by decide +kernel, by decide +kernel⟩, List.mem_of_getElem? (i := 429) (by decide +kernel), List.mem_of_getElem? (i := 558) (by decide +kernel), List.mem_of_getElem? (i := 559) (by decide +kernel)⟩
theorem lw_p40 : lw_okq (⟨"FiguredBassModel", "parallels", "(IZ)I"⟩, 6) := ⟨⟨by decide +kernel, by decide +kernel⟩, List.mem_of_getElem? (i := 429) (by decide +kernel), List.mem_of_getElem? (i := 562) (by decide +kernel), List.mem_of_getElem? (i := 563) (by decide +kernel)⟩
theorem lw_p41 : lw_okq (⟨"FiguredBassModel", "isFifth", "(III)Z"⟩, 6) := ⟨⟨by decide +kernel, by decide +kernel⟩, List.mem_of_getElem? (i := 429) (by decide +kernel), List.mem_of_getElem? (i := 566) (by decide +kernel), List.mem_of_getElem? (i := 567) (by decide +kernel)⟩
theorem lw_p42 : lw_okq (⟨"FiguredBassModel", "pitchOf", "(I)I"⟩, 6) := ⟨⟨by decide +kernel, by decide +kernel⟩, List.mem_of_getElem? (i := 429) (by decide +kernel), List.mem_of_getElem? (i := 570) (by decide +kernel), List.mem_of_getElem? (i := 571) (by decide +kernel)⟩
theorem lw_p43 : lw_okq (⟨"FiguredBassModel", "isOctave", "(III)Z"⟩, 6) := ⟨⟨by decide +kernel, by decide +kernel⟩, List.mem_of_getElem? (i := 429) (by decide +kernel), List.mem_of_getElem? (i := 578) (by decide +kernel), List.mem_of_getElem? (i := 579) (by decide +kernel)⟩
theorem lw_p44 : lw_okq (⟨"FiguredBassModel", "isHidden", "(I)Z"⟩, 6) := ⟨⟨by decide +kernel, by decide +kernel⟩, List.mem_of_getElem? (i := 429) (by decide +kernel), List.mem_of_getElem? (i := 582) (by decide +kernel), List.mem_of_getElem? (i := 583) (by decide +kernel)⟩
theorem lw_p45 : lw_okq (⟨"FiguredBassModel", "isFault", "(III)Z"⟩, 6) := ⟨⟨by decide +kernel, by decide +kernel⟩, List.mem_of_getElem? (i := 429) (by decide +kernel), List.mem_of_getElem? (i := 586) (by decide +kernel), List.mem_of_getElem? (i := 587) (by decide +kernel)⟩
theorem lw_p46 : lw_okq (⟨"FiguredBassModel", "chordTold", "(II)I"⟩, 6) := ⟨⟨by decide +kernel, by decide +kernel⟩, List.mem_of_getElem? (i := 429) (by decide +kernel), List.mem_of_getElem? (i := 602) (by decide +kernel), List.mem_of_getElem? (i := 603) (by decide +kernel)⟩
theorem lw_p47 : lw_okq (⟨"FiguredBassModel", "counted", "(I)I"⟩, 6) := ⟨⟨by decide +kernel, by decide +kernel⟩, List.mem_of_getElem? (i := 429) (by decide +kernel), List.mem_of_getElem? (i := 614) (by decide +kernel), List.mem_of_getElem? (i := 615) (by decide +kernel)⟩
def lw_privs_3 : List (MethodName × Nat) := [(⟨"FiguredBassModel", "led", "(I)[I"⟩, 6), (⟨"FiguredBassModel", "isRight", "(I)Z"⟩, 6), (⟨"FiguredBassModel", "isSet", "(I)Z"⟩, 6), (⟨"FiguredBassModel", "cost", "(I)I"⟩, 6), (⟨"FiguredBassModel", "steps", "(I)I"⟩, 6), (⟨"FiguredBassModel", "isPair", "(I)Z"⟩, 6), (⟨"FiguredBassModel", "goes", "(II)I"⟩, 6), (⟨"FiguredBassModel", "faultsOf", "(II)I"⟩, 6), (⟨"FiguredBassModel", "parallels", "(IZ)I"⟩, 6), (⟨"FiguredBassModel", "isFifth", "(III)Z"⟩, 6), (⟨"FiguredBassModel", "pitchOf", "(I)I"⟩, 6), (⟨"FiguredBassModel", "isOctave", "(III)Z"⟩, 6), (⟨"FiguredBassModel", "isHidden", "(I)Z"⟩, 6), (⟨"FiguredBassModel", "isFault", "(III)Z"⟩, 6), (⟨"FiguredBassModel", "chordTold", "(II)I"⟩, 6), (⟨"FiguredBassModel", "counted", "(I)I"⟩, 6)]
theorem lw_r3 : ∀ q ∈ lw_privs_3, lw_okq q := List.forall_mem_cons.mpr ⟨lw_p32, List.forall_mem_cons.mpr ⟨lw_p33, List.forall_mem_cons.mpr ⟨lw_p34, List.forall_mem_cons.mpr ⟨lw_p35, List.forall_mem_cons.mpr ⟨lw_p36, List.forall_mem_cons.mpr ⟨lw_p37, List.forall_mem_cons.mpr ⟨lw_p38, List.forall_mem_cons.mpr ⟨lw_p39, List.forall_mem_cons.mpr ⟨lw_p40, List.forall_mem_cons.mpr ⟨lw_p41, List.forall_mem_cons.mpr ⟨lw_p42, List.forall_mem_cons.mpr ⟨lw_p43, List.forall_mem_cons.mpr ⟨lw_p44, List.forall_mem_cons.mpr ⟨lw_p45, List.forall_mem_cons.mpr ⟨lw_p46, List.forall_mem_cons.mpr ⟨lw_p47, fun _ h => absurd h List.not_mem_nil⟩⟩⟩⟩⟩⟩⟩⟩⟩⟩⟩⟩⟩⟩⟩⟩
theorem lw_p48 : lw_okq (⟨"FiguredBassModel", "all", "(I)I"⟩, 6) := ⟨⟨by decide +kernel, by decide +kernel⟩, List.mem_of_getElem? (i := 429) (by decide +kernel), List.mem_of_getElem? (i := 618) (by decide +kernel), List.mem_of_getElem? (i := 619) (by decide +kernel)⟩
theorem lw_p49 : lw_okq (⟨"FiguredBassModel", "allFaults", "()I"⟩, 6) := ⟨⟨by decide +kernel, by decide +kernel⟩, List.mem_of_getElem? (i := 429) (by decide +kernel), List.mem_of_getElem? (i := 622) (by decide +kernel), List.mem_of_getElem? (i := 623) (by decide +kernel)⟩
def lw_privs_4 : List (MethodName × Nat) := [(⟨"FiguredBassModel", "all", "(I)I"⟩, 6), (⟨"FiguredBassModel", "allFaults", "()I"⟩, 6)]
theorem lw_r4 : ∀ q ∈ lw_privs_4, lw_okq q := List.forall_mem_cons.mpr ⟨lw_p48, List.forall_mem_cons.mpr ⟨lw_p49, fun _ h => absurd h List.not_mem_nil⟩⟩
def lw_privs : List (MethodName × Nat) := lw_privs_1 ++ (lw_privs_2 ++ (lw_privs_3 ++ (lw_privs_4)))
def lw_tbl : List Cond := k2_sels lw_privs ++ tables_1
theorem lw_privs_ok : ∀ q ∈ lw_privs, lw_okq q := by
  show ∀ q ∈ lw_privs_1 ++ (lw_privs_2 ++ (lw_privs_3 ++ (lw_privs_4))), lw_okq q
  exact List.forall_mem_append.mpr ⟨lw_r1, List.forall_mem_append.mpr ⟨lw_r2, List.forall_mem_append.mpr ⟨lw_r3, lw_r4⟩⟩⟩
/-- the streams that the claim lets the run draw from -/
abbrev lw_cs : List Choice := [Jvm.Choice.named "NaN.bits"]
theorem lw_bits : nanBits ∈ lw_cs := by first | decide | exact List.mem_cons_self | simp [lw_cs, nanBits]
-- ===== end of PART A; then your names; then what follows =====
end
section
/-! ===== BEGIN words of one list among another's, by their places ===== -/
theorem goodIn_r {big : List Cond} (ws : List Cond) (ps : List Nat) (hp : ws = ps.filterMap (fun i => big[i]?)) (h : ws.all goodWord = true) : GoodIn big ws := by
  intro w hw
  have h1 := List.all_eq_true.mp h w hw
  rw [hp] at hw
  obtain ⟨i, -, hi⟩ := List.mem_filterMap.mp hw
  have hm : w ∈ big := by first | exact List.mem_of_getElem? hi | exact List.getElem?_mem hi
  exact ⟨hm, good_of_word h1⟩
theorem goodIn_app {big a b : List Cond} (ha : GoodIn big a) (hb : GoodIn big b) : GoodIn big (a ++ b) := fun w h => (List.mem_append.mp h).elim (ha w) (hb w)
theorem goodIn_ca {big a b : List Cond} {c : Cond} (ha : GoodIn big (c :: a)) (hb : GoodIn big b) : GoodIn big (c :: (a ++ b)) := fun w h => (List.mem_cons.mp h).elim (fun e => ha w (List.mem_cons.mpr (Or.inl e))) (fun h => (List.mem_append.mp h).elim (fun h => ha w (List.mem_cons.mpr (Or.inr h))) (hb w))
theorem goodIn_sub {big ws : List Cond} (hm : ∀ w ∈ ws, w ∈ big) (h : ws.all goodWord = true) : GoodIn big ws := fun w hw => ⟨hm w hw, good_of_word (List.all_eq_true.mp h w hw)⟩
/-! ===== END ===== -/

/-! ===== BEGIN exceptions that leave a method, and their catching by the caller (launches without stack traces) ===== -/
section VXA
/-! The laws vx_back, vx_callV, vx_callS, vx_callSW, vx_throw0, vx_throwS follow proofs of the library, with one case more: JvmDerived/Free/Laws.lean (Back.of_free), Shelf42/LK1.lean (callV, callS), Shelf/KitTraced.lean (throwNew0V, throwNewS). -/
/-- where a method has thrown q: the class by its name, the cell, what was written, the world -/
def vx_T (XC : String → State → State → Prop) (st : State) (q : Addr) (t : State) (mc ms : Nat) (free : Addr → Prop) : Prop :=
  ∃ (E : String) (ce : Cell) (L : List Loc), XC E st t ∧ t.heap[q]? = some ce ∧ ce.vm = .none ∧ st.vm.findClass E = some ce.cls ∧ st.WarmedH t.vm ∧ st.sameButNew ({ t with vm := st.vm } : State) L mc ms ∧ ∀ z ∈ L, free z.base
def vx_Q (Qc : Array Value → State → Outcome → State → Prop) (XC : String → State → State → Prop) (mc ms : Nat) (free : Addr → Prop) : Array Value → State → Outcome → State → Prop := fun a st o t =>
  (Qc a st o t ∧ ∃ L, FrameEnd st o t L mc ms ∧ ∀ q ∈ L, free q.base) ∨ ∃ q, o = .threw q ∧ vx_T XC st q t mc ms free
/-- a callee that returns or throws -/
def vx_Met (l : Launch) (y : MethodName) (ws : List Cond) (rm : Room) (Pc : Array Value → State → Prop) (Qc : Array Value → State → Outcome → State → Prop) (XC : String → State → State → Prop) (mc ms : Nat) (free : Addr → Prop) : Prop :=
  MetFree l y (headSpec ws rm) Pc (fun _ _ _ _ _ => True) (vx_Q Qc XC mc ms free)
def vx_Post (XC : String → State → State → Prop) (mc ms : Nat) (free : Addr → Prop) : Pt → Array Value → Addr → Pt → Prop := fun A a q B =>
  ∃ (g : JFrame) (mk : MethodId) (t : State) (L : List Loc) (E : String) (ce : Cell), B.U.heap = t.heap ∧ B.U.vm = t.vm ∧ XC E (A.U.calling g mk a) t ∧ t.heap[q]? = some ce ∧ ce.vm = .none ∧ A.U.vm.findClass E = some ce.cls ∧ B.locs = A.locs ++ L ∧ (∀ z ∈ L, free z.base) ∧ B.cells = A.cells + mc ∧ B.slots = A.slots + ms
def vx_Back (l : Launch) (R : Room) (p : Program) (e : Env) (below : List Frame) (s : State) (sargs : Array Value) (y : MethodName) (len W9 : Nat)
    (Pre : Pt → Array Value → Prop) (Post : Pt → Array Value → Option Value → Pt → Prop) (PostX : Pt → Array Value → Addr → Pt → Prop) : Prop :=
  ∀ (m : MethodId) (meth : Method) (c : Code) (A : Pt) (g : JFrame) (ig : Instr) (mk : MethodId) (a : Array Value),
    Stand p l e R s m sargs below meth c A.U A.locs A.cells A.slots → g.method = m → g.locals.size = c.maxLocals → decode c.code g.pc = .ok (ig, len) →
    2 * g.monitorRoom + (g.stack.map fun v => v.category).sum ≤ W9 → A.U.methodNamed? y = some mk → Pre A a →
    (∃ (v : Option Value) (B : Pt), Stand p l e R s m sargs below meth c B.U B.locs B.cells B.slots ∧ Post A a v B ∧
      Steps p.tables e below (doInvoke e (A.U.setTop g) [] mk a).1 (B.U.setTop { g with pc := g.pc + len, stack := v.toList ++ g.stack })) ∨
    (∃ (q : Addr) (B : Pt), Stand p l e R s m sargs below meth c B.U B.locs B.cells B.slots ∧ PostX A a q B ∧
      Steps p.tables e below (doInvoke e (A.U.setTop g) [] mk a).1 ((B.U.setTop g).pushFrame (.throwing q)))
section Payer
variable {l : Launch} {R : Room} {p : Program} {e : Env} {below : List Frame} {s : State} {sargs : Array Value} {y : MethodName} {len W9 : Nat}
theorem vx_back {ws : List Cond} {rm : Room} {Pc : Array Value → State → Prop} {Qc : Array Value → State → Outcome → State → Prop} {XC : String → State → State → Prop} {mc ms : Nat} {free : Addr → Prop} {bytes : ByteArray} {maxL : Nat} {ret : Option FieldType}
    (hM : vx_Met l y ws rm Pc Qc XC mc ms free) (hblind : FrameBlind Pc) (hrc : rm.cells = mc) (hrs : rm.slots = ms)
    (hframes : rm.frames + 1 ≤ R.frames) (hlocals : W9 + (maxL + 11) + rm.locals ≤ R.locals)
    (hws : ∀ w ∈ ws, ∀ a' U, s.WarmedH U.vm → w.before a' U = true) (hcode : Cond.code y bytes maxL ret ∈ ws) (hinit : ∀ a' U, s.WarmedH U.vm → (Cond.initialized y.cls).before a' U = true) :
    vx_Back l R p e below s sargs y len W9 (PreOf R mc ms Pc) (PostOf Qc mc ms free) (vx_Post XC mc ms free) := by
  intro m meth c A g ig mk a X hg hsize hdg hW hn hp
  have h1 : (headSpec ws rm).pre.before a A.U = true := atoms_intro fun w hw => hws w hw _ _ X.warmed
  have h2 : (Cond.code y bytes maxL ret).before a A.U = true := hws _ hcode _ _ X.warmed
  have h3 : (Cond.initialized y.cls).before a A.U = true := hinit _ _ X.warmed
  have h4 : A.cells + (headSpec ws rm).room.cells ≤ R.cells := by rw [show (headSpec ws rm).room.cells = mc from hrc]; exact hp.1
  have h5 : A.slots + (headSpec ws rm).room.slots ≤ R.slots := by rw [show (headSpec ws rm).room.slots = ms from hrs]; exact hp.2.1
  have hPc : Pc a (A.U.calling g mk a) := hblind _ _ _ _ hp.2.2
  obtain ⟨U, Ls, c0, s0⟩ := A
  dsimp only [Pt.U, Pt.locs, Pt.cells, Pt.slots] at h1 h2 h3 h4 h5 X hn hPc ⊢
  obtain ⟨methY, cY, hmY, hcY, -, hlY, -, -, -, -⟩ := Cond.code_spec hn h2
  obtain ⟨kY, hkY, -⟩ := className_of_methodNamed hn
  have hinitY : kY.init = .initialized := Cond.initialized_spec (findClass_of_methodNamed hn) hkY h3
  have h : At U g.method c below := by rw [hg]; exact X.here
  have hlocals9 : W9 + (maxL + 11) + (headSpec ws rm).room.locals ≤ R.locals := hlocals
  have happ : (headSpec ws rm).appliesLoose y e.platform (U.calling g mk a) = true :=
    Spec.appliesLoose_calling (g := g) h hdg hn hkY hinitY
      (X.room_calling (g := g) (R' := (headSpec ws rm).room) hsize hmY hcY hframes (by rw [hlY]; omega) h4 h5) h1
  obtain ⟨mid, hmid⟩ := h.above
  have hfr : (U.setTop g).frames = (.java g :: mid) ++ below := by rw [State.frames_setTop' g h.top, hmid]; rfl
  obtain ⟨o, s₂, hsteps, -, hend, hq⟩ := Steps.callFree hM p X.admits X.cas X.clock (acts := []) hfr happ hPc trivial
  have hq' : vx_Q Qc XC mc ms free a (U.calling g mk a) o s₂ := hq
  rw [State.frames_setTop' g h.top] at hend
  obtain ⟨g₀, hg0⟩ := Option.isSome_iff_exists.mp h.top
  obtain ⟨r, hr⟩ := State.topJava?_eq_some.mp hg0
  have hr' : (({ U with heap := s₂.heap, slotsUsed := s₂.slotsUsed } : State).setVm s₂.vm).frames = .java g₀ :: r := hr
  rcases hq' with ⟨hqc, L, hfe, hL⟩ | ⟨q, rfl, E, ce, L, hx, hce, hcv, hcl, hW₂, hsm, hL⟩
  · obtain ⟨⟨v, rfl⟩, hW₂, e2, q2, q3, q4, q5, q6⟩ := id hfe
    have e3 : s₂ = ({ (U.calling g mk a).setFrames s₂.frames with heap := s₂.heap, slotsUsed := s₂.slotsUsed } : State).setVm s₂.vm := by
      have : s₂ = ({ s₂ with vm := (U.calling g mk a).vm } : State).setVm s₂.vm := rfl
      rw [e2] at this
      exact this
    obtain ⟨c₂, i₂, len₂, hc₂, hd₂, hf₂⟩ := hend
    have hW' : U.WarmedH s₂.vm := hW₂
    have hcc : c₂ = c := by
      have h1 : s₂.code? g.method = U.code? g.method := by
        rw [State.code?_eq, State.code?_eq, hW'.alike.method?]
      exact Option.some.inj (hc₂.symm.trans (h1.trans h.code))
    subst hcc
    have hlen : len₂ = len := by rw [hdg] at hd₂; cases hd₂; rfl
    subst hlen
    have hs₂ : s₂ = (({ U with heap := s₂.heap, slotsUsed := s₂.slotsUsed } : State).setVm s₂.vm).setTop { g with pc := g.pc + len₂, stack := v.toList ++ g.stack } := by
      refine e3.trans ?_
      rw [hf₂, State.calling_eq h.top, State.setFrames_setFrames, State.setTop_of_frames _ hr', hr]
      rfl
    have hsame : U.sameButNew ({ U with heap := s₂.heap, slotsUsed := s₂.slotsUsed } : State) L mc ms := by
      refine ⟨?_, q2, q3, q4, q5, q6⟩
      obtain ⟨t, ht, -⟩ := State.frames_cons hr
      show ({ U with heap := s₂.heap, slotsUsed := s₂.slotsUsed } : State) = { U.setFrames U.frames with heap := s₂.heap, slotsUsed := s₂.slotsUsed }
      rw [State.setFrames_self ht]
    subst hg
    refine Or.inl ⟨v, ⟨(({ U with heap := s₂.heap, slotsUsed := s₂.slotsUsed } : State).setVm s₂.vm), Ls ++ L, c0 + mc, s0 + ms⟩,
      ⟨X.admits, X.cas, X.clock, X.frames, X.room, X.hears, X.method, X.code, (X.here.setHeapUsed s₂.heap s₂.slotsUsed).setVm hW'.alike, X.tail, State.WarmedH.trans X.warmed hW', X.limits, X.bytes, X.same.trans (hsame.setVm s.vm)⟩,
      ⟨g, mk, s₂, L, rfl, rfl, hqc, rfl, hL, rfl, rfl⟩, ?_⟩
    show Steps p.tables e below _ ((({ U with heap := s₂.heap, slotsUsed := s₂.slotsUsed } : State).setVm s₂.vm).setTop { g with pc := g.pc + len₂, stack := v.toList ++ g.stack })
    rw [← hs₂]
    exact hsteps
  · obtain ⟨e2, q2, q3, q4, q5, q6⟩ := id hsm
    have e3 : s₂ = ({ (U.calling g mk a).setFrames s₂.frames with heap := s₂.heap, slotsUsed := s₂.slotsUsed } : State).setVm s₂.vm := by
      have : s₂ = ({ s₂ with vm := (U.calling g mk a).vm } : State).setVm s₂.vm := rfl
      rw [e2] at this
      exact this
    have hf₂ : s₂.frames = .throwing q :: .java g :: U.frames.tail := hend
    have hW' : U.WarmedH s₂.vm := hW₂
    have hs₂ : s₂ = ((({ U with heap := s₂.heap, slotsUsed := s₂.slotsUsed } : State).setVm s₂.vm).setTop g).pushFrame (.throwing q) := by
      refine e3.trans ?_
      rw [hf₂, State.calling_eq h.top, State.setFrames_setFrames, State.pushFrame, State.frames_setTop _ hr', State.setTop_of_frames _ hr', State.setFrames_setFrames, hr]
      rfl
    have hsame : U.sameButNew ({ U with heap := s₂.heap, slotsUsed := s₂.slotsUsed } : State) L mc ms := by
      refine ⟨?_, q2, q3, q4, q5, q6⟩
      obtain ⟨t, ht, -⟩ := State.frames_cons hr
      show ({ U with heap := s₂.heap, slotsUsed := s₂.slotsUsed } : State) = { U.setFrames U.frames with heap := s₂.heap, slotsUsed := s₂.slotsUsed }
      rw [State.setFrames_self ht]
    subst hg
    refine Or.inr ⟨q, ⟨(({ U with heap := s₂.heap, slotsUsed := s₂.slotsUsed } : State).setVm s₂.vm), Ls ++ L, c0 + mc, s0 + ms⟩,
      ⟨X.admits, X.cas, X.clock, X.frames, X.room, X.hears, X.method, X.code, (X.here.setHeapUsed s₂.heap s₂.slotsUsed).setVm hW'.alike, X.tail, State.WarmedH.trans X.warmed hW', X.limits, X.bytes, X.same.trans (hsame.setVm s.vm)⟩,
      ⟨g, mk, s₂, L, E, ce, rfl, rfl, hx, hce, hcv, hcl, rfl, hL, rfl, rfl⟩, ?_⟩
    show Steps p.tables e below _ (((({ U with heap := s₂.heap, slotsUsed := s₂.slotsUsed } : State).setVm s₂.vm).setTop g).pushFrame (.throwing q))
    rw [← hs₂]
    exact hsteps
end Payer
section Calls
variable {p : Program} {l : Launch} {e : Env} {R : Room} {s : State} {m : MethodId} {args : Array Value} {below : List Frame} {meth : Method} {c : Code} {T : State} {locs : List Loc} {cells slots : Nat}
theorem vx_callV (X : Stand p l e R s m args below meth c T locs cells slots) (hexec : p.tables.exec = Jvm.exec) {own C : String} {index : Nat} {y : MethodName} {bytes : ByteArray} {maxL : Nat} {ret : Option FieldType}
    (hown : s.vm.findClass own = some m.cls) (hlink : (Cond.methodLink own index y).before args s = true) (hinst : (Cond.instanceMethod y).before args s = true) (hsel : (Cond.selects C y y).before args s = true)
    (hcode : (Cond.code y bytes maxL ret).before args s = true) (hy : y.cls ≠ "java/lang/invoke/MethodHandle" ∧ y.cls ≠ "java/lang/invoke/VarHandle")
    {W9 : Nat} {Pre : Pt → Array Value → Prop} {Post : Pt → Array Value → Option Value → Pt → Prop} {PostX : Pt → Array Value → Addr → Pt → Prop} (hK : vx_Back l R p e below s args y 3 W9 Pre Post PostX)
    {b : Addr} {cellB : Cell} (hcell : T.heap[b]? = some cellB) (hobj : cellB.vm.isStatics = false) (hcls : s.vm.findClass C = some cellB.cls)
    {g : JFrame} (hg : g.method = m) (hsize : g.locals.size = c.maxLocals) {argsL rest : List Value} (hlen : ∀ sig, parseMethodDescriptor y.desc = some sig → argsL.length = sig.parameters.length)
    (hstack : g.stack = argsL.reverse ++ .ref b :: rest) (hW : 2 * g.monitorRoom + (rest.map fun v => v.category).sum ≤ W9) (hdg : decode c.code g.pc = .ok (.invokevirtual index, 3))
    (hpre : ∀ vm₁, s.WarmedH vm₁ → Pre ⟨T.setVm vm₁, locs, cells, slots⟩ (Value.ref b :: argsL).toArray) :
    (∃ (v : Option Value) (vm₁ : Vm) (B : Pt), s.WarmedH vm₁ ∧ Stand p l e R s m args below meth c B.U B.locs B.cells B.slots ∧ Post ⟨T.setVm vm₁, locs, cells, slots⟩ (Value.ref b :: argsL).toArray v B ∧
      ∀ target, Steps p.tables e below (B.U.setTop { g with pc := g.pc + 3, stack := v.toList ++ rest }) target → Steps p.tables e below (T.setTop g) target) ∨
    (∃ (q : Addr) (vm₁ : Vm) (B : Pt), s.WarmedH vm₁ ∧ Stand p l e R s m args below meth c B.U B.locs B.cells B.slots ∧ PostX ⟨T.setVm vm₁, locs, cells, slots⟩ (Value.ref b :: argsL).toArray q B ∧
      Steps p.tables e below (T.setTop g) ((B.U.setTop { g with stack := rest }).pushFrame (.throwing q))) := by
  obtain ⟨mk, methM, hnamed, hmethM, hstM, habM⟩ := Cond.instanceMethod_spec hinst
  obtain ⟨methM', cM, hmethM', -, -, -, -, -, -, hsigM⟩ := Cond.code_spec hnamed hcode
  cases hmethM.symm.trans hmethM'
  obtain ⟨c2, r2, m2, q1, q2, q3, q4, kP, hkP, hkPi⟩ := Cond.selects_spec hsel
  cases hcls.symm.trans q1
  cases (State.methodFound?_of_named hnamed hy).symm.trans q2
  cases hnamed.symm.trans q3
  have hselP : selectMethod e.platform s.vm cellB.cls mk = .method mk := by rw [Launch.admits_selectMethod X.admits]; exact q4
  obtain ⟨vm₁, X₁, hstep₁⟩ := X.invokevirtual hexec hown hlink hnamed hmethM hstM hkP hkPi hy (a := b) (cell := cellB) hcell
    (fun z h => by rw [h] at hobj; cases hobj) hselP hmethM habM hkP hkPi (g := g) hg (argsL := argsL) (rest := rest) (hlen _ hsigM) hstack hdg
  rcases hK m meth c ⟨T.setVm vm₁, locs, cells, slots⟩ { g with stack := rest } (.invokevirtual index) mk (Value.ref b :: argsL).toArray X₁ hg hsize hdg hW (X₁.named hnamed) (hpre vm₁ X₁.warmed) with ⟨v, B, X', hpost, hsteps⟩ | ⟨q, B, X', hpost, hsteps⟩
  · exact Or.inl ⟨v, vm₁, B, X₁.warmed, X', hpost, fun target h => hstep₁ _ fun acts => by rw [doInvoke_state]; exact hsteps.trans h⟩
  · exact Or.inr ⟨q, vm₁, B, X₁.warmed, X', hpost, hstep₁ _ fun acts => by rw [doInvoke_state]; exact hsteps⟩
theorem vx_callS (X : Stand p l e R s m args below meth c T locs cells slots) (hexec : p.tables.exec = Jvm.exec) {own : String} {index : Nat} {y : MethodName} {bytes : ByteArray} {maxL : Nat} {ret : Option FieldType}
    (hown : s.vm.findClass own = some m.cls) (hlink : (Cond.methodLink own index y).before args s = true) (hstat : (Cond.static y).before args s = true) (hinit : (Cond.initialized y.cls).before args s = true)
    (hcode : (Cond.code y bytes maxL ret).before args s = true) (hy : y.cls ≠ "java/lang/invoke/MethodHandle" ∧ y.cls ≠ "java/lang/invoke/VarHandle")
    {W9 : Nat} {Pre : Pt → Array Value → Prop} {Post : Pt → Array Value → Option Value → Pt → Prop} {PostX : Pt → Array Value → Addr → Pt → Prop} (hK : vx_Back l R p e below s args y 3 W9 Pre Post PostX)
    {g : JFrame} (hg : g.method = m) (hsize : g.locals.size = c.maxLocals) {argsL rest : List Value} (hlen : ∀ sig, parseMethodDescriptor y.desc = some sig → argsL.length = sig.parameters.length)
    (hstack : g.stack = argsL.reverse ++ rest) (hW : 2 * g.monitorRoom + (rest.map fun v => v.category).sum ≤ W9) (hdg : decode c.code g.pc = .ok (.invokestatic index, 3))
    (hpre : ∀ vm₁, s.WarmedH vm₁ → Pre ⟨T.setVm vm₁, locs, cells, slots⟩ argsL.toArray) :
    (∃ (v : Option Value) (vm₁ : Vm) (B : Pt), s.WarmedH vm₁ ∧ Stand p l e R s m args below meth c B.U B.locs B.cells B.slots ∧ Post ⟨T.setVm vm₁, locs, cells, slots⟩ argsL.toArray v B ∧
      ∀ target, Steps p.tables e below (B.U.setTop { g with pc := g.pc + 3, stack := v.toList ++ rest }) target → Steps p.tables e below (T.setTop g) target) ∨
    (∃ (q : Addr) (vm₁ : Vm) (B : Pt), s.WarmedH vm₁ ∧ Stand p l e R s m args below meth c B.U B.locs B.cells B.slots ∧ PostX ⟨T.setVm vm₁, locs, cells, slots⟩ argsL.toArray q B ∧
      Steps p.tables e below (T.setTop g) ((B.U.setTop { g with stack := rest }).pushFrame (.throwing q))) := by
  obtain ⟨mk, hnamed⟩ := Cond.code_named hcode
  obtain ⟨methM, cM, hmethM, -, -, -, -, -, -, hsigM⟩ := Cond.code_spec hnamed hcode
  have hstatic : methM.isStatic = true := Cond.static_spec hnamed hmethM hstat
  obtain ⟨kP, hkP, -⟩ := className_of_methodNamed hnamed
  have hinitP : kP.init = .initialized := Cond.initialized_spec (findClass_of_methodNamed hnamed) hkP hinit
  obtain ⟨vm₁, X₁, hstep₁⟩ := X.invokestatic hexec hown hlink hnamed hmethM hstatic hkP hinitP hy (g := g) hg (argsL := argsL) (rest := rest) (hlen _ hsigM) hstack hdg
  rcases hK m meth c ⟨T.setVm vm₁, locs, cells, slots⟩ { g with stack := rest } (.invokestatic index) mk argsL.toArray X₁ hg hsize hdg hW (X₁.named hnamed) (hpre vm₁ X₁.warmed) with ⟨v, B, X', hpost, hsteps⟩ | ⟨q, B, X', hpost, hsteps⟩
  · exact Or.inl ⟨v, vm₁, B, X₁.warmed, X', hpost, fun target h => hstep₁ _ fun acts => by rw [doInvoke_state]; exact hsteps.trans h⟩
  · exact Or.inr ⟨q, vm₁, B, X₁.warmed, X', hpost, hstep₁ _ fun acts => by rw [doInvoke_state]; exact hsteps⟩
end Calls
theorem vx_cls {s : State} {T : State} {vm₁ : Vm} {E : String} {k : ClassId} (hW : s.WarmedH vm₁) (h : (T.setVm vm₁).vm.findClass E = some k) : s.vm.findClass E = some k := by
  have h1 : vm₁.findClass E = some k := h
  rw [hW.alike.findClass] at h1
  exact h1
/-- the method's frame g, with q thrown over it -/
def vx_W (p : Program) (l : Launch) (e : Env) (R : Room) (s : State) (m : MethodId) (args : Array Value) (below : List Frame) (meth : Method) (c : Code) (H : Heap) (locs : List Loc) (cells slots : Nat) (Q : State → Prop) (g : JFrame) (q : Addr) : Prop :=
  ∀ T : State, T.heap = H → Stand p l e R s m args below meth c T locs cells slots → ∃ t, Steps p.tables e below ((T.setTop g).pushFrame (.throwing q)) t ∧ Q t
def vx_Run (p : Program) (l : Launch) (e : Env) (R : Room) (s : State) (m : MethodId) (args : Array Value) (below : List Frame) (meth : Method) (c : Code) (H : Heap) (locs : List Loc) (cells slots mc ms : Nat) (g : JFrame) (rest : List Value) (Qa : State → Outcome → State → Prop) (XC : String → State → State → Prop) (free : Addr → Prop) : Prop :=
  ∀ T : State, T.heap = H → Stand p l e R s m args below meth c T locs cells slots →
    (∃ (v : Option Value) (st₀ t T' : State) (L : List Loc), st₀.heap = H ∧ Stand p l e R s m args below meth c T' (locs ++ L) (cells + mc) (slots + ms) ∧ (∀ q ∈ L, free q.base) ∧ T'.heap = t.heap ∧ T'.vm = t.vm ∧ Qa st₀ (.returned v) t ∧
      Goes p e below T g T' { g with pc := g.pc + 3, stack := v.toList ++ rest }) ∨
    (∃ (q : Addr) (st₀ t T' : State) (L : List Loc) (E : String) (ce : Cell), st₀.heap = H ∧ Stand p l e R s m args below meth c T' (locs ++ L) (cells + mc) (slots + ms) ∧ (∀ z ∈ L, free z.base) ∧ T'.heap = t.heap ∧ T'.vm = t.vm ∧ XC E st₀ t ∧ t.heap[q]? = some ce ∧ ce.vm = .none ∧ s.vm.findClass E = some ce.cls ∧
      Steps p.tables e below (T.setTop g) ((T'.setTop { g with stack := rest }).pushFrame (.throwing q)))
def vx_X {S : Type} (px : S → Prop) (B : String → S → State → Prop) (A : Nat → Prop) : String → State → State → Prop := fun E st t => ∃ u : S, px u ∧ B E u t ∧ va_F A st t
section Runs
variable {p : Program} {l : Launch} {e : Env} {R : Room} {s : State} {m : MethodId} {args : Array Value} {below : List Frame} {meth : Method} {c : Code} {H : Heap} {locs : List Loc} {cells slots : Nat}
variable {y : MethodName} {bytes cc : ByteArray} {maxL nL mc ms n index : Nat} {ret : Option FieldType} {ws : List Cond} {rm : Room} {Pc : Array Value → State → Prop} {Qc : Array Value → State → Outcome → State → Prop} {XC : String → State → State → Prop} {free : Addr → Prop} {Ts : List Cond} {own C : String} {b : Addr} {As rest : List Value} {g : JFrame}
theorem vx_callBack (cb : CallB R s args own index y bytes maxL ret ws rm mc ms n) (hM : vx_Met l y ws rm Pc Qc XC mc ms free) (hbl : FrameBlind Pc) : vx_Back l R p e below s args y 3 8 (PreOf R mc ms Pc) (PostOf Qc mc ms free) (vx_Post XC mc ms free) := by
  obtain ⟨hrc, hrs, hfr, hlo, hws, hcw, -, hini, -⟩ := cb
  exact vx_back (bytes := bytes) (maxL := maxL) (ret := ret) hM hbl hrc hrs hfr hlo hws hcw (fun a' U hW => word_at hW (Or.inl (by first | rfl | simp [Cond.onTables, Cond.keeps, Cond.steady])) hini)
theorem vx_runV (S : CallFix p m c cc nL s args Ts own) (hM : vx_Met l y ws rm Pc Qc XC mc ms free) (cw : CallW R s args own C index y bytes maxL ret ws rm mc ms n) (hp : PreV s H C b Pc As)
    (hg : g.method = m) (hn : As.length = n) (hsize : g.locals.size = nL) (hstack : g.stack = As.reverse ++ .ref b :: rest) (hW : 2 * g.monitorRoom + (rest.map fun v => v.category).sum ≤ 8) (hdg : decode cc g.pc = .ok (.invokevirtual index, 3)) (hf : cells + mc ≤ R.cells ∧ slots + ms ≤ R.slots) :
    vx_Run p l e R s m args below meth c H locs cells slots mc ms g rest (Qc (Value.ref b :: As).toArray) XC free := by
  have hK : vx_Back l R p e below s args y 3 8 (PreOf R mc ms Pc) (PostOf Qc mc ms free) (vx_Post XC mc ms free) := vx_callBack cw.1 hM hp.1
  obtain ⟨⟨-, -, -, -, -, -, hcode, -, hy, hlen, hl⟩, hin, hse⟩ := cw
  obtain ⟨hx, hb, hml, ho, -⟩ := S
  obtain ⟨-, ⟨cellB, hcB, hoB, hclB⟩, hPc⟩ := hp
  intro T hT X
  rcases vx_callV X hx (C := C) (bytes := bytes) (maxL := maxL) (ret := ret) ho hl hin hse hcode hy hK (by rw [hT]; exact hcB) hoB hclB hg (hsize.trans hml.symm) (argsL := As) (rest := rest) (fun sig h => hn.trans (hlen sig h)) hstack hW (by rw [hb]; exact hdg)
    (fun vm₁ hW₁ => ⟨hf.1, hf.2, hPc (T.setVm vm₁) hT hW₁⟩) with ⟨v, vm₁, ⟨U', l2, c2, s2⟩, hW₁, X', ⟨g', mk, t, L, e1, e2, hq, h1, hL, h2, h3⟩, st⟩ | ⟨q, vm₁, ⟨U', l2, c2, s2⟩, hW₁, X', ⟨g', mk, t, L, E, ce, e1, e2, hq, hce, hcv, hcl, h1, hL, h2, h3⟩, st⟩
  · dsimp only [Pt.U, Pt.locs, Pt.cells, Pt.slots] at X' e1 e2 h1 h2 h3 st
    subst h1; subst h2; subst h3
    exact Or.inl ⟨v, (T.setVm vm₁).calling g' mk (Value.ref b :: As).toArray, t, U', L, hT, X', hL, e1, e2, hq, st⟩
  · dsimp only [Pt.U, Pt.locs, Pt.cells, Pt.slots] at X' e1 e2 h1 h2 h3 st hcl
    subst h1; subst h2; subst h3
    exact Or.inr ⟨q, (T.setVm vm₁).calling g' mk (Value.ref b :: As).toArray, t, U', L, E, ce, hT, X', hL, e1, e2, hq, hce, hcv, vx_cls hW₁ hcl, st⟩
theorem vx_runS (S : CallFix p m c cc nL s args Ts own) (hM : vx_Met l y ws rm Pc Qc XC mc ms free) (cw : CallB R s args own index y bytes maxL ret ws rm mc ms n ∧ (Cond.static y).before args s = true) (hp : PreS s H Pc As)
    (hg : g.method = m) (hn : As.length = n) (hsize : g.locals.size = nL) (hstack : g.stack = As.reverse ++ rest) (hW : 2 * g.monitorRoom + (rest.map fun v => v.category).sum ≤ 8) (hdg : decode cc g.pc = .ok (.invokestatic index, 3)) (hf : cells + mc ≤ R.cells ∧ slots + ms ≤ R.slots) :
    vx_Run p l e R s m args below meth c H locs cells slots mc ms g rest (Qc As.toArray) XC free := by
  have hK : vx_Back l R p e below s args y 3 8 (PreOf R mc ms Pc) (PostOf Qc mc ms free) (vx_Post XC mc ms free) := vx_callBack cw.1 hM hp.1
  obtain ⟨⟨-, -, -, -, -, -, hcode, hini, hy, hlen, hl⟩, hstt⟩ := cw
  obtain ⟨hx, hb, hml, ho, -⟩ := S
  intro T hT X
  rcases vx_callS X hx (bytes := bytes) (maxL := maxL) (ret := ret) ho hl hstt hini hcode hy hK hg (hsize.trans hml.symm) (argsL := As) (rest := rest) (fun sig h => hn.trans (hlen sig h)) hstack hW (by rw [hb]; exact hdg)
    (fun vm₁ hW₁ => ⟨hf.1, hf.2, hp.2 (T.setVm vm₁) hT hW₁⟩) with ⟨v, vm₁, ⟨U', l2, c2, s2⟩, hW₁, X', ⟨g', mk, t, L, e1, e2, hq, h1, hL, h2, h3⟩, st⟩ | ⟨q, vm₁, ⟨U', l2, c2, s2⟩, hW₁, X', ⟨g', mk, t, L, E, ce, e1, e2, hq, hce, hcv, hcl, h1, hL, h2, h3⟩, st⟩
  · dsimp only [Pt.U, Pt.locs, Pt.cells, Pt.slots] at X' e1 e2 h1 h2 h3 st
    subst h1; subst h2; subst h3
    exact Or.inl ⟨v, (T.setVm vm₁).calling g' mk As.toArray, t, U', L, hT, X', hL, e1, e2, hq, st⟩
  · dsimp only [Pt.U, Pt.locs, Pt.cells, Pt.slots] at X' e1 e2 h1 h2 h3 st hcl
    subst h1; subst h2; subst h3
    exact Or.inr ⟨q, (T.setVm vm₁).calling g' mk As.toArray, t, U', L, E, ce, hT, X', hL, e1, e2, hq, hce, hcv, vx_cls hW₁ hcl, st⟩
end Runs
section Rows
variable {p : Program} {l : Launch} {e : Env} {R : Room} {s : State} {m : MethodId} {args : Array Value} {below : List Frame} {meth : Method} {c : Code} {H : Heap} {locs : List Loc} {cells slots : Nat} {Q : State → Prop}
variable {mc ms : Nat} {free : Addr → Prop} {A0 A1 : Nat → Prop} {H0 : Heap} {a : Array Value} {pc : Nat} {ls : Array Slot} {st0 rest : List Value}
theorem vx_keep {st₀ t T' : State} {L : List Loc} (h0 : st₀.heap = H) (e1 : T'.heap = t.heap) (hS : va_S A0 H0 H locs) (hA : ∀ q, q < H.size → A1 q → A0 q) (hf : ∀ q, free q → A0 q) (hL : ∀ q ∈ L, free q.base) (hF : va_F A1 st₀ t) :
    H.size ≤ T'.heap.size ∧ (∀ q : Nat, q < H.size → ¬ A1 q → T'.heap[q]? = H[q]?) ∧ va_S A0 H0 T'.heap (locs ++ L) := by
  obtain ⟨hz, hk⟩ := hF
  rw [h0] at hz hk
  exact ⟨by rw [e1]; exact hz, fun q h1 h2 => by rw [e1]; exact hk q h1 h2,
    ⟨Nat.le_trans hS.1 (by rw [e1]; exact hz), fun q h1 h2 => by rw [e1, hk q (Nat.lt_of_lt_of_le h1 hS.1) (fun z => h2 (hA q (Nat.lt_of_lt_of_le h1 hS.1) z))]; exact hS.2.1 q h1 h2, fun q hq => by
      rcases List.mem_append.mp hq with h | h
      · exact hS.2.2 q h
      · exact hf _ (hL q h)⟩⟩
theorem vx_calli {S SX : Type} {post : Int32 → S → Prop} {px : SX → Prop} {B : S → State → Prop} {BX : String → SX → State → Prop} {AX : Nat → Prop} (hr : vx_Run p l e R s m args below meth c H locs cells slots mc ms (F0 m pc ls st0) rest (va_Qi post B A1 a) (vx_X px BX AX) free) (hS : va_S A0 H0 H locs) (hA : ∀ q, q < H.size → A1 q → A0 q) (hf : ∀ q, free q → A0 q) (hAX : ∀ q, q < H.size → AX q → A0 q)
    (kx : ∀ (E : String) (ce : Cell) (q9 : Addr) (u : SX) (t : State) (H1 : Heap) (locs1 : List Loc), t.heap = H1 → s.vm.Alike t.vm → px u → BX E u t → H.size ≤ H1.size → (∀ q : Nat, q < H.size → ¬ AX q → H1[q]? = H[q]?) → va_S A0 H0 H1 locs1 → H1[q9]? = some ce → ce.vm = .none → s.vm.findClass E = some ce.cls → vx_W p l e R s m args below meth c H1 locs1 (cells + mc) (slots + ms) Q (F0 m pc ls rest) q9)
    (kk : ∀ (r : Int32) (u : S) (t : State) (H1 : Heap) (locs1 : List Loc), t.heap = H1 → s.vm.Alike t.vm → post r u → B u t → H.size ≤ H1.size → (∀ q : Nat, q < H.size → ¬ A1 q → H1[q]? = H[q]?) → va_S A0 H0 H1 locs1 → W p l e R s m args below meth c H1 locs1 (cells + mc) (slots + ms) Q (F0 m (pc + 3) ls (.int r :: rest))) : W p l e R s m args below meth c H locs cells slots Q (F0 m pc ls st0) := by
  intro T hT X
  rcases hr T hT X with ⟨v, st₀, t, T', L, h0, X', hL, e1, e2, ⟨⟨r, u, hv, hp, hb⟩, hF⟩, st⟩ | ⟨q, st₀, t, T', L, E, ce, h0, X', hL, e1, e2, ⟨u, hp, hb, hF⟩, hce, hcv, hcl, st⟩
  · cases hv
    obtain ⟨k1, k2, k3⟩ := vx_keep h0 e1 hS hA hf hL hF
    obtain ⟨t2, a1, b1⟩ := kk r u t T'.heap (locs ++ L) e1.symm (by rw [← e2]; exact X'.warmed.alike) hp hb k1 k2 k3 T' rfl X'
    exact ⟨t2, st t2 a1, b1⟩
  · obtain ⟨k1, k2, k3⟩ := vx_keep h0 e1 hS hAX hf hL hF
    obtain ⟨t2, a1, b1⟩ := kx E ce q u t T'.heap (locs ++ L) e1.symm (by rw [← e2]; exact X'.warmed.alike) hp hb k1 k2 k3 (by rw [e1]; exact hce) hcv hcl T' rfl X'
    exact ⟨t2, st.trans a1, b1⟩
theorem vx_calll {S SX : Type} {post : Int64 → S → Prop} {px : SX → Prop} {B : S → State → Prop} {BX : String → SX → State → Prop} {AX : Nat → Prop} (hr : vx_Run p l e R s m args below meth c H locs cells slots mc ms (F0 m pc ls st0) rest (va_Ql post B A1 a) (vx_X px BX AX) free) (hS : va_S A0 H0 H locs) (hA : ∀ q, q < H.size → A1 q → A0 q) (hf : ∀ q, free q → A0 q) (hAX : ∀ q, q < H.size → AX q → A0 q)
    (kx : ∀ (E : String) (ce : Cell) (q9 : Addr) (u : SX) (t : State) (H1 : Heap) (locs1 : List Loc), t.heap = H1 → s.vm.Alike t.vm → px u → BX E u t → H.size ≤ H1.size → (∀ q : Nat, q < H.size → ¬ AX q → H1[q]? = H[q]?) → va_S A0 H0 H1 locs1 → H1[q9]? = some ce → ce.vm = .none → s.vm.findClass E = some ce.cls → vx_W p l e R s m args below meth c H1 locs1 (cells + mc) (slots + ms) Q (F0 m pc ls rest) q9)
    (kk : ∀ (r : Int64) (u : S) (t : State) (H1 : Heap) (locs1 : List Loc), t.heap = H1 → s.vm.Alike t.vm → post r u → B u t → H.size ≤ H1.size → (∀ q : Nat, q < H.size → ¬ A1 q → H1[q]? = H[q]?) → va_S A0 H0 H1 locs1 → W p l e R s m args below meth c H1 locs1 (cells + mc) (slots + ms) Q (F0 m (pc + 3) ls (.long r :: rest))) : W p l e R s m args below meth c H locs cells slots Q (F0 m pc ls st0) := by
  intro T hT X
  rcases hr T hT X with ⟨v, st₀, t, T', L, h0, X', hL, e1, e2, ⟨⟨r, u, hv, hp, hb⟩, hF⟩, st⟩ | ⟨q, st₀, t, T', L, E, ce, h0, X', hL, e1, e2, ⟨u, hp, hb, hF⟩, hce, hcv, hcl, st⟩
  · cases hv
    obtain ⟨k1, k2, k3⟩ := vx_keep h0 e1 hS hA hf hL hF
    obtain ⟨t2, a1, b1⟩ := kk r u t T'.heap (locs ++ L) e1.symm (by rw [← e2]; exact X'.warmed.alike) hp hb k1 k2 k3 T' rfl X'
    exact ⟨t2, st t2 a1, b1⟩
  · obtain ⟨k1, k2, k3⟩ := vx_keep h0 e1 hS hAX hf hL hF
    obtain ⟨t2, a1, b1⟩ := kx E ce q u t T'.heap (locs ++ L) e1.symm (by rw [← e2]; exact X'.warmed.alike) hp hb k1 k2 k3 (by rw [e1]; exact hce) hcv hcl T' rfl X'
    exact ⟨t2, st.trans a1, b1⟩
theorem vx_callf {S SX : Type} {post : UInt32 → S → Prop} {px : SX → Prop} {B : S → State → Prop} {BX : String → SX → State → Prop} {AX : Nat → Prop} (hr : vx_Run p l e R s m args below meth c H locs cells slots mc ms (F0 m pc ls st0) rest (va_Qf post B A1 a) (vx_X px BX AX) free) (hS : va_S A0 H0 H locs) (hA : ∀ q, q < H.size → A1 q → A0 q) (hf : ∀ q, free q → A0 q) (hAX : ∀ q, q < H.size → AX q → A0 q)
    (kx : ∀ (E : String) (ce : Cell) (q9 : Addr) (u : SX) (t : State) (H1 : Heap) (locs1 : List Loc), t.heap = H1 → s.vm.Alike t.vm → px u → BX E u t → H.size ≤ H1.size → (∀ q : Nat, q < H.size → ¬ AX q → H1[q]? = H[q]?) → va_S A0 H0 H1 locs1 → H1[q9]? = some ce → ce.vm = .none → s.vm.findClass E = some ce.cls → vx_W p l e R s m args below meth c H1 locs1 (cells + mc) (slots + ms) Q (F0 m pc ls rest) q9)
    (kk : ∀ (r : UInt32) (u : S) (t : State) (H1 : Heap) (locs1 : List Loc), t.heap = H1 → s.vm.Alike t.vm → post r u → B u t → H.size ≤ H1.size → (∀ q : Nat, q < H.size → ¬ A1 q → H1[q]? = H[q]?) → va_S A0 H0 H1 locs1 → W p l e R s m args below meth c H1 locs1 (cells + mc) (slots + ms) Q (F0 m (pc + 3) ls (.float r :: rest))) : W p l e R s m args below meth c H locs cells slots Q (F0 m pc ls st0) := by
  intro T hT X
  rcases hr T hT X with ⟨v, st₀, t, T', L, h0, X', hL, e1, e2, ⟨⟨r, u, hv, hp, hb⟩, hF⟩, st⟩ | ⟨q, st₀, t, T', L, E, ce, h0, X', hL, e1, e2, ⟨u, hp, hb, hF⟩, hce, hcv, hcl, st⟩
  · cases hv
    obtain ⟨k1, k2, k3⟩ := vx_keep h0 e1 hS hA hf hL hF
    obtain ⟨t2, a1, b1⟩ := kk r u t T'.heap (locs ++ L) e1.symm (by rw [← e2]; exact X'.warmed.alike) hp hb k1 k2 k3 T' rfl X'
    exact ⟨t2, st t2 a1, b1⟩
  · obtain ⟨k1, k2, k3⟩ := vx_keep h0 e1 hS hAX hf hL hF
    obtain ⟨t2, a1, b1⟩ := kx E ce q u t T'.heap (locs ++ L) e1.symm (by rw [← e2]; exact X'.warmed.alike) hp hb k1 k2 k3 (by rw [e1]; exact hce) hcv hcl T' rfl X'
    exact ⟨t2, st.trans a1, b1⟩
theorem vx_calld {S SX : Type} {post : UInt64 → S → Prop} {px : SX → Prop} {B : S → State → Prop} {BX : String → SX → State → Prop} {AX : Nat → Prop} (hr : vx_Run p l e R s m args below meth c H locs cells slots mc ms (F0 m pc ls st0) rest (va_Qd post B A1 a) (vx_X px BX AX) free) (hS : va_S A0 H0 H locs) (hA : ∀ q, q < H.size → A1 q → A0 q) (hf : ∀ q, free q → A0 q) (hAX : ∀ q, q < H.size → AX q → A0 q)
    (kx : ∀ (E : String) (ce : Cell) (q9 : Addr) (u : SX) (t : State) (H1 : Heap) (locs1 : List Loc), t.heap = H1 → s.vm.Alike t.vm → px u → BX E u t → H.size ≤ H1.size → (∀ q : Nat, q < H.size → ¬ AX q → H1[q]? = H[q]?) → va_S A0 H0 H1 locs1 → H1[q9]? = some ce → ce.vm = .none → s.vm.findClass E = some ce.cls → vx_W p l e R s m args below meth c H1 locs1 (cells + mc) (slots + ms) Q (F0 m pc ls rest) q9)
    (kk : ∀ (r : UInt64) (u : S) (t : State) (H1 : Heap) (locs1 : List Loc), t.heap = H1 → s.vm.Alike t.vm → post r u → B u t → H.size ≤ H1.size → (∀ q : Nat, q < H.size → ¬ A1 q → H1[q]? = H[q]?) → va_S A0 H0 H1 locs1 → W p l e R s m args below meth c H1 locs1 (cells + mc) (slots + ms) Q (F0 m (pc + 3) ls (.double r :: rest))) : W p l e R s m args below meth c H locs cells slots Q (F0 m pc ls st0) := by
  intro T hT X
  rcases hr T hT X with ⟨v, st₀, t, T', L, h0, X', hL, e1, e2, ⟨⟨r, u, hv, hp, hb⟩, hF⟩, st⟩ | ⟨q, st₀, t, T', L, E, ce, h0, X', hL, e1, e2, ⟨u, hp, hb, hF⟩, hce, hcv, hcl, st⟩
  · cases hv
    obtain ⟨k1, k2, k3⟩ := vx_keep h0 e1 hS hA hf hL hF
    obtain ⟨t2, a1, b1⟩ := kk r u t T'.heap (locs ++ L) e1.symm (by rw [← e2]; exact X'.warmed.alike) hp hb k1 k2 k3 T' rfl X'
    exact ⟨t2, st t2 a1, b1⟩
  · obtain ⟨k1, k2, k3⟩ := vx_keep h0 e1 hS hAX hf hL hF
    obtain ⟨t2, a1, b1⟩ := kx E ce q u t T'.heap (locs ++ L) e1.symm (by rw [← e2]; exact X'.warmed.alike) hp hb k1 k2 k3 (by rw [e1]; exact hce) hcv hcl T' rfl X'
    exact ⟨t2, st.trans a1, b1⟩
theorem vx_callv {S SX : Type} {post : S → Prop} {px : SX → Prop} {B : S → State → Prop} {BX : String → SX → State → Prop} {AX : Nat → Prop} (hr : vx_Run p l e R s m args below meth c H locs cells slots mc ms (F0 m pc ls st0) rest (va_Qv post B A1 a) (vx_X px BX AX) free) (hS : va_S A0 H0 H locs) (hA : ∀ q, q < H.size → A1 q → A0 q) (hf : ∀ q, free q → A0 q) (hAX : ∀ q, q < H.size → AX q → A0 q)
    (kx : ∀ (E : String) (ce : Cell) (q9 : Addr) (u : SX) (t : State) (H1 : Heap) (locs1 : List Loc), t.heap = H1 → s.vm.Alike t.vm → px u → BX E u t → H.size ≤ H1.size → (∀ q : Nat, q < H.size → ¬ AX q → H1[q]? = H[q]?) → va_S A0 H0 H1 locs1 → H1[q9]? = some ce → ce.vm = .none → s.vm.findClass E = some ce.cls → vx_W p l e R s m args below meth c H1 locs1 (cells + mc) (slots + ms) Q (F0 m pc ls rest) q9)
    (kk : ∀ (u : S) (t : State) (H1 : Heap) (locs1 : List Loc), t.heap = H1 → s.vm.Alike t.vm → post u → B u t → H.size ≤ H1.size → (∀ q : Nat, q < H.size → ¬ A1 q → H1[q]? = H[q]?) → va_S A0 H0 H1 locs1 → W p l e R s m args below meth c H1 locs1 (cells + mc) (slots + ms) Q (F0 m (pc + 3) ls (rest))) : W p l e R s m args below meth c H locs cells slots Q (F0 m pc ls st0) := by
  intro T hT X
  rcases hr T hT X with ⟨v, st₀, t, T', L, h0, X', hL, e1, e2, ⟨⟨u, hv, hp, hb⟩, hF⟩, st⟩ | ⟨q, st₀, t, T', L, E, ce, h0, X', hL, e1, e2, ⟨u, hp, hb, hF⟩, hce, hcv, hcl, st⟩
  · cases hv
    obtain ⟨k1, k2, k3⟩ := vx_keep h0 e1 hS hA hf hL hF
    obtain ⟨t2, a1, b1⟩ := kk u t T'.heap (locs ++ L) e1.symm (by rw [← e2]; exact X'.warmed.alike) hp hb k1 k2 k3 T' rfl X'
    exact ⟨t2, st t2 a1, b1⟩
  · obtain ⟨k1, k2, k3⟩ := vx_keep h0 e1 hS hAX hf hL hF
    obtain ⟨t2, a1, b1⟩ := kx E ce q u t T'.heap (locs ++ L) e1.symm (by rw [← e2]; exact X'.warmed.alike) hp hb k1 k2 k3 (by rw [e1]; exact hce) hcv hcl T' rfl X'
    exact ⟨t2, st.trans a1, b1⟩
/-- caught by the row x of this method's table; the rows ahead don't take it -/
theorem vx_catch {own name : String} {E : String} {ce : Cell} {q : Addr} (hown : s.vm.findClass own = some m.cls) (pre : List ExceptionTableEntry) (x : ExceptionTableEntry) (suf : List ExceptionTableEntry) (hsplit : c.exceptionTable.toList = pre ++ x :: suf)
    (hpass : ∀ z ∈ pre, covers z pc = false ∨ (z.catchType ≠ 0 ∧ ∃ nm : String, (Cond.classLink own z.catchType nm).before args s = true ∧ va_Nc E nm s)) (hx : covers x pc = true) (h0 : x.catchType ≠ 0)
    (hlink : (Cond.classLink own x.catchType name).before args s = true) (hcast : (Cond.castable E name).before args s = true) (hcell : H[q]? = some ce) (hv : ce.vm = .none) (hcl : s.vm.findClass E = some ce.cls)
    (kk : W p l e R s m args below meth c H locs cells slots Q (F0 m x.handlerPc ls [.ref q])) : vx_W p l e R s m args below meth c H locs cells slots Q (F0 m pc ls rest) q := by
  intro T hT X
  have hpl : e.platform.magicAccessors = ({} : Platform).magicAccessors := by rw [X.admits.platform]
  obtain ⟨c3, c4, hc3, hc4, hasg⟩ := Cond.castable_spec hcast
  cases Option.some.inj (hc3.symm.trans hcl)
  obtain ⟨c5, hc5, hcl5⟩ := Cond.classLink_spec hown hlink e.platform hpl
  cases Option.some.inj (hc4.symm.trans hc5)
  obtain ⟨vm', X', st⟩ := X.thenCaughtThrough q (g := F0 m pc ls rest) rfl (Steps.refl _) (by rw [hT]; exact hcell) (by rw [hv]; rfl) (by obtain ⟨k9, h9, -⟩ := Vm.findClass_spec hcl; exact ⟨k9, h9⟩) pre x suf hsplit
    (fun z hz => by
      rcases hpass z hz with h | ⟨hz0, nm, hl1, hn1⟩
      · exact Or.inl h
      · obtain ⟨c6, hc6, hcl6⟩ := Cond.classLink_spec hown hl1 e.platform hpl
        obtain ⟨a8, b8, h1, h2, h3⟩ := hn1
        cases Option.some.inj (h1.symm.trans hcl)
        cases Option.some.inj (h2.symm.trans hc6)
        exact Or.inr ⟨hz0, _, hcl6, h3⟩) hx (Or.inr ⟨h0, c4, hcl5, hasg⟩)
  obtain ⟨t, a1, b1⟩ := kk (T.setVm vm') hT X'
  exact ⟨t, st.trans a1, b1⟩
end Rows
section Ends
variable {p : Program} {l : Launch} {e : Env} {R : Room} {s : State} {m : MethodId} {args : Array Value} {below : List Frame} {meth : Method} {c : Code} {H : Heap} {locs : List Loc} {cells slots : Nat} {Q : State → Prop}
variable {mc ms : Nat} {free : Addr → Prop} {A0 A1 : Nat → Prop} {H0 : Heap} {a : Array Value} {ls : Array Slot} {st0 rest : List Value}
variable {Qc : Array Value → State → Outcome → State → Prop} {XC : String → State → State → Prop}
/-- what a body that may throw owes at its end -/
def vx_MQ (below : List Frame) (Qc : Array Value → State → Outcome → State → Prop) (XC : String → State → State → Prop) (a : Array Value) (s : State) (mc ms : Nat) (free : Addr → Prop) : State → Prop := fun t =>
  ∃ o, t.status = .running ∧ Ended t below o ∧ vx_Q Qc XC mc ms free a s o t
theorem vx_ret {g : JFrame} {mc ms : Nat} (k : W p l e R s m args below meth c H locs cells slots (MQ below Qc args s mc ms free) g) : W p l e R s m args below meth c H locs cells slots (vx_MQ below Qc XC args s mc ms free) g := by
  intro T hT X
  obtain ⟨t, a1, o, b1, b2, b3, b4⟩ := k T hT X
  exact ⟨t, a1, o, b1, b2, Or.inl ⟨b3, b4⟩⟩
/-- not caught here: it goes on to the caller -/
theorem vx_widen {g : JFrame} {q : Addr} {k n : Nat} (h1 : cells ≤ k) (h2 : slots ≤ n) (kk : vx_W p l e R s m args below meth c H locs k n Q g q) : vx_W p l e R s m args below meth c H locs cells slots Q g q := fun T hT X => kk T hT (stand_widen X h1 h2)
theorem vx_out {pc : Nat} {E : String} {ce : Cell} {q : Addr} {mc ms : Nat} (hout : ∀ x ∈ c.exceptionTable.toList, covers x pc = false) (hlocks : meth.locks = false) (hcell : H[q]? = some ce) (hv : ce.vm = .none) (hcl : s.vm.findClass E = some ce.cls)
    (hx : ∀ t : State, t.heap = H → s.vm.Alike t.vm → XC E s t) (hf : ∀ z ∈ locs, free z.base) (hc : cells ≤ mc) (hs : slots ≤ ms) :
    vx_W p l e R s m args below meth c H locs cells slots (vx_MQ below Qc XC args s mc ms free) (F0 m pc ls rest) q := by
  intro T hT X
  obtain ⟨st1, hrun, hend, hW, hsm⟩ := X.leaveThrown q (g := F0 m pc ls rest) rfl rfl rfl hout hlocks
  have hcell9 : (T.setFrames (.throwing q :: below)).heap[q]? = some ce := by
    show T.heap[q]? = some ce
    rw [hT]; exact hcell
  exact ⟨_, st1, .threw q, hrun, hend, Or.inr ⟨q, rfl, E, ce, locs, hx _ hT hW.alike, hcell9, hv, hcl, hW, hsm.mono hc hs, hf⟩⟩
theorem vx_frame {U : State} {k n : Nat} (h : s.sameButNew ({ U with vm := s.vm } : State) locs k n) : s.heap.size ≤ U.heap.size ∧ ∀ q : Nat, q < s.heap.size → (∀ z ∈ locs, z.base ≠ q) → U.heap[q]? = s.heap[q]? := by
  obtain ⟨-, h2, -, -, -, h6⟩ := h
  refine ⟨h2, fun q hq hz => ?_⟩
  obtain ⟨c9, e1, e2, e3, e4⟩ := h6 q _ (Array.getElem?_eq_getElem hq)
  have hs : c9.slots = (s.heap[q]).slots := Array.ext_getElem? fun i => e4 i fun hm => hz _ hm rfl
  have h9 : c9 = s.heap[q] := by
    rw [hs] at e2
    exact e2
  have e5 : U.heap[q]? = some c9 := e1
  rw [e5, h9, Array.getElem?_eq_getElem hq]
/-- the words of a throw but the four that speak of the heap -/
def vx_no (w : Cond) : Bool := decide (w ≠ .isRef (.static Bundle.tN "UNASSIGNED_STACK" Bundle.steD)) && decide (w ≠ .isRef (.static Bundle.tN "SUPPRESSED_SENTINEL" Bundle.listD)) && decide (w ≠ .laysStatic Bundle.tN "UNASSIGNED_STACK" Bundle.steD) && decide (w ≠ .laysStatic Bundle.tN "SUPPRESSED_SENTINEL" Bundle.listD)
def vx_at0 (own : String) (ic : Nat) (X : String) (names : List String) : List Cond := (Bundle.ownAtoms0 own ic X names).filter vx_no
def vx_atS (own : String) (ic : Nat) (X : String) (names : List String) : List Cond := (Bundle.ownAtoms own ic X names).filter vx_no
/-- a word that the tables alone decide, or a good one -/
def vx_ot (w : Cond) : Bool := w.onTables || goodWord w
theorem vx_ot_at {args a' : Array Value} {s U : State} {w : Cond} (hW : s.WarmedH U.vm) (hvm : s.vm = U.vm) (hg : vx_ot w = true) (h : w.before args s = true) : w.before a' U = true := by
  simp only [vx_ot, Bool.or_eq_true] at hg
  rcases hg with hg | hg
  · exact va_tabs hg hvm h
  · exact word_at hW (good_of_word hg) h
/-- a list's words: the good ones out of the method's own list, the others by premises of their own -/
theorem vx_hat {args : Array Value} {s : State} {L B : List Cond} (h1 : ∀ w ∈ L.filter goodWord, w.before args s = true) (h2 : ∀ w ∈ L.filter (fun w => !goodWord w), w ∈ B) (h3 : ∀ w ∈ B, w.before args s = true) : ∀ w ∈ L, w.before args s = true := by
  intro w hw
  by_cases g : goodWord w = true
  · exact h1 w (List.mem_filter.mpr ⟨hw, g⟩)
  · refine h3 w (h2 w (List.mem_filter.mpr ⟨hw, ?_⟩))
    show (!goodWord w) = true
    cases hgw : goodWord w
    · rfl
    · exact absurd hgw g
theorem vx_c {args : Array Value} {s : State} {w : Cond} {B : List Cond} (h : w.before args s = true) (t : ∀ w ∈ B, w.before args s = true) : ∀ w' ∈ w :: B, w'.before args s = true := fun w' h' => (List.mem_cons.mp h').elim (fun e => by rw [e]; exact h) (t w')
theorem vx_n {args : Array Value} {s : State} : ∀ w ∈ ([] : List Cond), w.before args s = true := fun _ h => nomatch h
theorem vx_own {args : Array Value} {s : State} {L : List Cond} (h1 : ∀ w ∈ L.filter vx_no, w.before args s = true)
    (hU : (Cond.isRef (.static Bundle.tN "UNASSIGNED_STACK" Bundle.steD)).before args s = true) (hN : (Cond.isRef (.static Bundle.tN "SUPPRESSED_SENTINEL" Bundle.listD)).before args s = true)
    (lU : (Cond.laysStatic Bundle.tN "UNASSIGNED_STACK" Bundle.steD).before args s = true) (lN : (Cond.laysStatic Bundle.tN "SUPPRESSED_SENTINEL" Bundle.listD).before args s = true) : ∀ w ∈ L, w.before args s = true := by
  intro w hw
  by_cases e1 : w = .isRef (.static Bundle.tN "UNASSIGNED_STACK" Bundle.steD)
  · rw [e1]; exact hU
  · by_cases e2 : w = .isRef (.static Bundle.tN "SUPPRESSED_SENTINEL" Bundle.listD)
    · rw [e2]; exact hN
    · by_cases e3 : w = .laysStatic Bundle.tN "UNASSIGNED_STACK" Bundle.steD
      · rw [e3]; exact lU
      · by_cases e4 : w = .laysStatic Bundle.tN "SUPPRESSED_SENTINEL" Bundle.listD
        · rw [e4]; exact lN
        · exact h1 w (List.mem_filter.mpr ⟨hw, by unfold vx_no; rw [decide_eq_true e1, decide_eq_true e2, decide_eq_true e3, decide_eq_true e4]; rfl⟩)
/-- where a static field lies, its class's statics cell in H -/
def vx_L (C n d : String) (A : Nat → Prop) (U : State) (H : Heap) : Prop := ∃ (c : ClassId) (k : Class) (i : Nat) (f : Field) (a : Nat) (cell : Cell), U.vm.findClass C = some c ∧ U.fieldFound? C n d = some (c, k, i, f) ∧ f.isStatic = true ∧ k.statics = some a ∧ H[a]? = some cell ∧ cell.vm.isStatics = true ∧ cell.cls = c ∧ f.slot < cell.slots.size ∧ k.staticTypes[f.slot]? = some f.type ∧ ¬ A a
theorem vx_L.moved {C n d : String} {A : Nat → Prop} {u U : State} {H : Heap} (hvm : u.vm.Alike U.vm) (h : vx_L C n d A u H) : vx_L C n d A U H := by
  obtain ⟨c, k, i, f, a, cell, h1, h2, h3, h4, h5, h6, h7, h8, h9, h10⟩ := h
  obtain ⟨k', hi', he⟩ := State.fieldFound?_setVm hvm h2
  exact ⟨c, k', i, f, a, cell, by rw [hvm.findClass]; exact h1, hi', h3, by rw [he]; exact h4, h5, h6, h7, h8, by rw [he]; exact h9, h10⟩
theorem vx_L.kept {C n d : String} {A : Nat → Prop} {U : State} {H H1 : Heap} (h : vx_L C n d A U H) (hq : ∀ a : Nat, a < H.size → ¬ A a → H1[a]? = H[a]?) : vx_L C n d A U H1 := by
  obtain ⟨c, k, i, f, a, cell, h1, h2, h3, h4, h5, h6, h7, h8, h9, h10⟩ := h
  exact ⟨c, k, i, f, a, cell, h1, h2, h3, h4, by rw [hq a (Array.getElem?_eq_some_iff.mp h5).1 h10]; exact h5, h6, h7, h8, h9, h10⟩
theorem vx_L.narrow {C n d : String} {A B : Nat → Prop} {U : State} {H : Heap} (h : vx_L C n d A U H) (hAB : ∀ q, B q → A q) : vx_L C n d B U H := by
  obtain ⟨c, k, i, f, a, cell, h1, h2, h3, h4, h5, h6, h7, h8, h9, h10⟩ := h
  exact ⟨c, k, i, f, a, cell, h1, h2, h3, h4, h5, h6, h7, h8, h9, fun z => h10 (hAB _ z)⟩
theorem vx_L.word {C n d : String} {A : Nat → Prop} {s : State} {args : Array Value} (h : vx_L C n d A s s.heap) : (Cond.laysStatic C n d).before args s = true := by
  obtain ⟨c, k, i, f, a, cell, h1, h2, h3, h4, h5, h6, h7, h8, h9, -⟩ := h
  show (Cond.laysStatic C n d).holds args s none s [] = true
  exact Cond.laysStatic_of h1 h2 h3 h4 h5 h6 h7 h8 h9
/-- .. and what it holds: null or some reference -/
def vx_Zq (C n d : String) (A : Nat → Prop) (U : State) (H : Heap) : Prop := va_Zq C n d A U H ∧ vx_L C n d A U H
theorem vx_Zq.moved {C n d : String} {A : Nat → Prop} {u U : State} {H : Heap} (hvm : u.vm.Alike U.vm) (h : vx_Zq C n d A u H) : vx_Zq C n d A U H := ⟨va_Zq.moved hvm h.1, vx_L.moved hvm h.2⟩
theorem vx_Zq.kept {C n d : String} {A : Nat → Prop} {U : State} {H H1 : Heap} (h : vx_Zq C n d A U H) (hq : ∀ a : Nat, a < H.size → ¬ A a → H1[a]? = H[a]?) : vx_Zq C n d A U H1 := ⟨va_Zq.kept h.1 hq, vx_L.kept h.2 hq⟩
theorem vx_Zq.narrow {C n d : String} {A B : Nat → Prop} {U : State} {H : Heap} (h : vx_Zq C n d A U H) (hAB : ∀ q, B q → A q) : vx_Zq C n d B U H := ⟨va_Zq.narrow h.1 hAB, vx_L.narrow h.2 hAB⟩
theorem vx_Zqof {args : Array Value} {s : State} {C n d : String} {A : Nat → Prop} (hl : (Cond.laysStatic C n d).before args s = true) (hini : (Cond.initialized C).before args s = true) (h : (Cond.isRef (.static C n d)).before args s = true) (hA : ∀ a : Nat, a < s.heap.size → ¬ A a) : vx_Zq C n d A s s.heap := by
  refine ⟨va_Zqof hl hini h hA, ?_⟩
  obtain ⟨c, k, i, f, a, cell, h1, h2, h3, h4, h5, h6, h7, h8, h9⟩ := Cond.laysStatic_spec hl
  exact ⟨c, k, i, f, a, cell, h1, h2, h3, h4, h5, h6, h7, h8, h9, hA a (Array.getElem?_eq_some_iff.mp h5).1⟩
theorem vx_isRef {C n d : String} {v : Value} {A : Nat → Prop} {s : State} {args : Array Value} (h : va_Z C n d v A s s.heap) (hv : v.isRef = true) : (Cond.isRef (.static C n d)).before args s = true := by
  obtain ⟨cf, kf, fi, f, a, cell, h1, h2, h3, h4, h5, h6, h7, -⟩ := h
  have he : (Term.static C n d).eval args s none [] s = some v := by
    simp [Term.eval, State.fieldNamed?, h1, h2, h4, h5, h6, h7]
  simp only [Cond.before, Cond.holds, Cond.value, he]
  cases v <;> simp_all [Value.isRef]
theorem vx_isRefq {C n d : String} {A : Nat → Prop} {s : State} {args : Array Value} (h : va_Zq C n d A s s.heap) : (Cond.isRef (.static C n d)).before args s = true := by
  rcases h with h | ⟨t, h⟩
  · exact vx_isRef h rfl
  · exact vx_isRef h rfl
/-- the same frame, seen from here: as if the method were called anew in this heap -/
theorem vx_rebase {T : State} (X : Stand p l e R s m args below meth c T locs cells slots) {R' : Room} (hf : R'.frames ≤ R.frames) (hl : R'.locals ≤ R.locals) (hc : cells + R'.cells ≤ R.cells) (hs : slots + R'.slots ≤ R.slots) :
    Stand p l e R' ((T.setVm s.vm).setFrames (.invoking m args :: below)) m args below meth c T [] 0 0 := by
  have htop : (T.setVm s.vm).topJava?.isSome := X.here.top
  have hF : ((T.setVm s.vm).setFrames (.invoking m args :: below)).frames = .invoking m args :: below := State.frames_setFrames _ (State.cur_lt_of_top htop)
  obtain ⟨g₀, hg0⟩ := Option.isSome_iff_exists.mp htop
  obtain ⟨r, hr⟩ := State.topJava?_eq_some.mp hg0
  have hl9 : e.platform.stackLimits (T.setVm s.vm).me = e.platform.stackLimits s.me := X.limits
  have hb9 : (T.setVm s.vm).me.stackBytes = s.me.stackBytes := X.bytes
  refine ⟨X.admits, X.cas, X.clock, hF, ?_, X.hears, X.method, X.code, X.here, X.tail, X.warmed, ?_, ?_, ?_⟩
  · have h := X.room
    have hU : ((T.setVm s.vm).setFrames (.invoking m args :: below)).localsInUse = s.localsInUse := by
      rw [State.localsInUse_invoking hF (meth := meth) (c := c) X.method X.code, State.localsInUse_invoking X.frames X.method X.code]
    simp only [State.hasRoom, Bool.and_eq_true, decide_eq_true_eq] at h ⊢
    obtain ⟨⟨⟨⟨h1, h2, h3, h4, h5, h6⟩, h7⟩, h8⟩, h9⟩ := h
    rw [X.frames, List.length_cons] at h2 h3
    have q1 := X.heapSize
    have q2 := X.used
    simp only [hF, hU, List.length_cons, State.stackLimits_setFrames, State.stackBytes_setFrames, hl9, hb9]
    refine ⟨⟨⟨⟨by omega, by omega, by omega, by omega, by omega, h6⟩, ?_⟩, ?_⟩, X.book⟩
    · show T.heap.size + R'.cells ≤ e.platform.maxCells
      omega
    · show T.slotsUsed + R'.slots ≤ e.platform.maxSlots
      omega
  · rw [State.stackLimits_setFrames]; rfl
  · rw [State.stackBytes_setFrames]; rfl
  · refine ⟨?_, Nat.le_refl _, Nat.le_refl _, ?_, ?_, fun a c9 h9 => ⟨c9, h9, rfl, rfl, fun _ _ => rfl⟩⟩
    · obtain ⟨t, ht, -⟩ := State.frames_cons hr
      show T.setVm s.vm = { ((T.setVm s.vm).setFrames (.invoking m args :: below)).setFrames (T.setVm s.vm).frames with heap := T.heap, slotsUsed := T.slotsUsed }
      rw [State.setFrames_setFrames, State.setFrames_self ht]
      rfl
    · show T.slotsUsed = T.slotsUsed + ((T.heap.toList.drop T.heap.size).map (·.slots.size)).sum
      rw [List.drop_eq_nil_of_le (Nat.le_of_eq Array.length_toList)]
      rfl
    · show ((T.heap.toList.drop T.heap.size).map (·.slots.size)).sum ≤ 0
      rw [List.drop_eq_nil_of_le (Nat.le_of_eq Array.length_toList)]
      exact Nat.le_refl _
/-- 'throw new E()': new; dup; invokespecial; athrow -/
theorem vx_throw0 {cc : ByteArray} {pc : Nat} (hexec : p.tables.exec = Jvm.exec) (hb : c.code = cc) (hl : l.stackTraces = false) {own cls : String} {names : List String} {ik ic mc ms : Nat} {A : Nat → Prop}
    (hown : s.vm.findClass own = some m.cls) (hcls : Bundle.fit cls = true) (hnames : ∀ n ∈ names, Bundle.fit n = true)
    (hk : (Cond.classLink own ik cls).before args s = true) (hini : (Cond.initialized cls).before args s = true) (hat : ∀ w ∈ vx_at0 own ic cls names, w.before args s = true)
    (hgood : ∀ w ∈ Cond.classLink own ik cls :: Cond.initialized cls :: vx_at0 own ic cls names, vx_ot w = true)
    (hU : vx_Zq Bundle.tN "UNASSIGNED_STACK" Bundle.steD A s s.heap) (hN : vx_Zq Bundle.tN "SUPPRESSED_SENTINEL" Bundle.listD A s s.heap) (hS : va_S A s.heap H locs) (hsize : ls.size = c.maxLocals)
    (d0 : decode cc pc = .ok (.new ik, 3)) (d3 : decode cc (pc + 3) = .ok (.dup, 1)) (d4 : decode cc (pc + 4) = .ok (.invokespecial ic, 3)) (d7 : decode cc (pc + 7) = .ok (.athrow, 1))
    (hout : ∀ x ∈ c.exceptionTable.toList, covers x (pc + 7) = false)
    (hRframes : names.length + 3 < R.frames) (hRlocals : (rest.map fun v => v.category).sum + (13 * (names.length + 1) + 42) ≤ R.locals) (hRcells : cells + 1 ≤ R.cells) (hRslots : slots + 6 ≤ R.slots) (hlocks : meth.locks = false)
    (hx : ∀ t : State, s.vm.Alike t.vm → H.size ≤ t.heap.size → (∀ q : Nat, q < H.size → t.heap[q]? = H[q]?) → XC cls s t)
    (hf : ∀ z ∈ locs, free z.base) (hc : cells + 1 ≤ mc) (hs : slots + 6 ≤ ms) :
    W p l e R s m args below meth c H locs cells slots (vx_MQ below Qc XC args s mc ms free) (F0 m pc ls rest) := by
  intro T hT X
  have htr : e.platform.stackTraces = false := (show e.platform.stackTraces = l.stackTraces by rw [X.admits.platform]).trans hl
  have Y := vx_rebase X (R' := { frames := R.frames, locals := R.locals, cells := 1, slots := 6 }) (Nat.le_refl _) (Nat.le_refl _) hRcells hRslots
  obtain ⟨s', hA⟩ : ∃ z, z = (T.setVm s.vm).setFrames (.invoking m args :: below) := ⟨_, rfl⟩
  rw [← hA] at Y
  have hvm : s'.vm = s.vm := by rw [hA]; rfl
  have hhp : s'.heap = H := by rw [hA]; exact hT
  have hW0 : s.WarmedH s'.vm := by rw [hvm]; exact State.WarmedH.refl s
  have hat' : ∀ w ∈ vx_at0 own ic cls names, w.before args s' = true := fun w hw => vx_ot_at hW0 hvm.symm (hgood w (List.mem_cons_of_mem _ (List.mem_cons_of_mem _ hw))) (hat w hw)
  have hk' : (Cond.classLink own ik cls).before args s' = true := vx_ot_at hW0 hvm.symm (hgood _ List.mem_cons_self) hk
  have hini' : (Cond.initialized cls).before args s' = true := vx_ot_at hW0 hvm.symm (hgood _ (List.mem_cons_of_mem _ List.mem_cons_self)) hini
  have hU' : vx_Zq Bundle.tN "UNASSIGNED_STACK" Bundle.steD A s' s'.heap := by rw [hhp]; exact vx_Zq.moved hW0.alike (hU.kept hS.2.1)
  have hN' : vx_Zq Bundle.tN "SUPPRESSED_SENTINEL" Bundle.listD A s' s'.heap := by rw [hhp]; exact vx_Zq.moved hW0.alike (hN.kept hS.2.1)
  have h : ∀ w ∈ Bundle.ownAtoms0 own ic cls names, w.before args s' = true := vx_own hat' (vx_isRefq hU'.1) (vx_isRefq hN'.1) hU'.2.word hN'.2.word
  have hown' : s'.vm.findClass own = some m.cls := by rw [hvm]; exact hown
  have hins : (Cond.instantiable cls 6).before args s' = true := h _ (by simp [Bundle.ownAtoms0])
  obtain ⟨vm₁, cX, kX, hfX, hkX, -, -, X₁, st1⟩ := Y.newCold hexec (own := own) (C := cls) (index := ik) (n := 6) hown' hk' hins hini'
    (g := F0 m pc ls rest) rfl (by rw [hb]; exact d0) (Nat.le_refl _) (Nat.le_refl _)
  generalize hT1 : (T.setVm vm₁).pushCell { cls := cX, slots := kX.instanceTypes.map defaultValue, vm := .none } = T1 at X₁ st1
  have hcat : (Value.ref T.heap.size).category = 1 := rfl
  have hcellA : T1.heap[T.heap.size]? = some (freshCell cX kX) := by rw [← hT1]; exact State.heap_pushCell_size _ _
  have d3' : decode c.code (pc + 3) = .ok (.dup, 1) := by rw [hb]; exact d3
  obtain ⟨U, hsteps, hrun, hend, hW, hsame, ce, hce, hO⟩ := X₁.ctorThrow0 hexec htr (own := own) (cls := cls) (names := names) (ic := ic) hown' hcls hnames h (fun x hx => nomatch hx) hfX hkX hcellA (by rw [hhp, hT]; exact Nat.le_refl _)
    (g := { method := m, pc := pc + 4, locals := ls, stack := .ref T.heap.size :: .ref T.heap.size :: rest, locked := none }) rfl hsize rfl rfl (rest := rest) rfl
    (by rw [hb]; exact d4) (by rw [hb]; exact d7) hout hRframes (by simp only [List.map_cons, List.sum_cons, hcat]; omega) hlocks
  obtain ⟨f1, f2⟩ := vx_frame hsame
  rw [hhp] at f1 f2
  have hWs : s.WarmedH U.vm := State.WarmedH.trans hW0 hW
  have hcl : s.vm.findClass cls = some ce.cls := by
    have h9 := hO.cls
    rw [hvm] at h9
    exact h9
  have hall : s.sameButNew ({ U with vm := s.vm } : State) locs mc ms := by
    subst hA
    obtain ⟨e1, e2⟩ := hsame
    rw [State.setFrames_setFrames] at e1
    have h2 : (T.setVm s.vm).sameButNew ({ U with vm := s.vm } : State) [] (0 + 1) (0 + 6) := ⟨e1, e2⟩
    have h3 := X.same.trans h2
    rw [List.append_nil] at h3
    exact h3.mono hc hs
  refine ⟨U, ?_, .threw T.heap.size, hrun, hend, Or.inr ⟨T.heap.size, rfl, cls, ce, locs, hx U hWs.alike f1 (fun q hq => f2 q hq (fun z hz => nomatch hz)), hce, hO.vm, hcl, hWs, hall, hf⟩⟩
  refine st1 _ ?_
  show Steps p.tables e below (T1.setTop { method := m, pc := pc + 3, locals := ls, stack := .ref T.heap.size :: rest, locked := none }) _
  jvm_step X₁.here [X₁.here.top, hexec, d3', Value.category]
  exact hsteps
/-- 'throw new E("text")': new; dup; ldc; invokespecial; athrow -/
theorem vx_throwS {cc : ByteArray} {pc : Nat} (hexec : p.tables.exec = Jvm.exec) (hb : c.code = cc) (hl : l.stackTraces = false) {own cls text : String} {names : List String} {ik is ic mc ms sa : Nat} {A : Nat → Prop}
    (hown : s.vm.findClass own = some m.cls) (hcls : Bundle.fit cls = true) (hnames : ∀ n ∈ names, Bundle.fit n = true)
    (hk : (Cond.classLink own ik cls).before args s = true) (hini : (Cond.initialized cls).before args s = true) (hstr : vk_R own is text sa s) (hat : ∀ w ∈ vx_atS own ic cls names, w.before args s = true)
    (hgood : ∀ w ∈ Cond.classLink own ik cls :: Cond.initialized cls :: vx_atS own ic cls names, vx_ot w = true)
    (hU : vx_Zq Bundle.tN "UNASSIGNED_STACK" Bundle.steD A s s.heap) (hN : vx_Zq Bundle.tN "SUPPRESSED_SENTINEL" Bundle.listD A s s.heap) (hS : va_S A s.heap H locs) (hsize : ls.size = c.maxLocals)
    (d0 : decode cc pc = .ok (.new ik, 3)) (d3 : decode cc (pc + 3) = .ok (.dup, 1)) (d4 : decode cc (pc + 4) = .ok (.ldc is, 2)) (d6 : decode cc (pc + 6) = .ok (.invokespecial ic, 3)) (d9 : decode cc (pc + 9) = .ok (.athrow, 1))
    (hout : ∀ x ∈ c.exceptionTable.toList, covers x (pc + 9) = false)
    (hRframes : names.length + 3 < R.frames) (hRlocals : (rest.map fun v => v.category).sum + (13 * (names.length + 1) + 43) ≤ R.locals) (hRcells : cells + 1 ≤ R.cells) (hRslots : slots + 6 ≤ R.slots) (hlocks : meth.locks = false)
    (hx : ∀ t : State, s.vm.Alike t.vm → H.size ≤ t.heap.size → (∀ q : Nat, q < H.size → t.heap[q]? = H[q]?) → XC cls s t)
    (hf : ∀ z ∈ locs, free z.base) (hc : cells + 1 ≤ mc) (hs : slots + 6 ≤ ms) :
    W p l e R s m args below meth c H locs cells slots (vx_MQ below Qc XC args s mc ms free) (F0 m pc ls rest) := by
  intro T hT X
  have htr : e.platform.stackTraces = false := (show e.platform.stackTraces = l.stackTraces by rw [X.admits.platform]).trans hl
  have Y := vx_rebase X (R' := { frames := R.frames, locals := R.locals, cells := 1, slots := 6 }) (Nat.le_refl _) (Nat.le_refl _) hRcells hRslots
  obtain ⟨s', hA⟩ : ∃ z, z = (T.setVm s.vm).setFrames (.invoking m args :: below) := ⟨_, rfl⟩
  rw [← hA] at Y
  have hvm : s'.vm = s.vm := by rw [hA]; rfl
  have hhp : s'.heap = H := by rw [hA]; exact hT
  have hW0 : s.WarmedH s'.vm := by rw [hvm]; exact State.WarmedH.refl s
  have hat' : ∀ w ∈ vx_atS own ic cls names, w.before args s' = true := fun w hw => vx_ot_at hW0 hvm.symm (hgood w (List.mem_cons_of_mem _ (List.mem_cons_of_mem _ hw))) (hat w hw)
  have hk' : (Cond.classLink own ik cls).before args s' = true := vx_ot_at hW0 hvm.symm (hgood _ List.mem_cons_self) hk
  have hini' : (Cond.initialized cls).before args s' = true := vx_ot_at hW0 hvm.symm (hgood _ (List.mem_cons_of_mem _ List.mem_cons_self)) hini
  have hU' : vx_Zq Bundle.tN "UNASSIGNED_STACK" Bundle.steD A s' s'.heap := by rw [hhp]; exact vx_Zq.moved hW0.alike (hU.kept hS.2.1)
  have hN' : vx_Zq Bundle.tN "SUPPRESSED_SENTINEL" Bundle.listD A s' s'.heap := by rw [hhp]; exact vx_Zq.moved hW0.alike (hN.kept hS.2.1)
  have h : ∀ w ∈ Bundle.ownAtoms own ic cls names, w.before args s' = true := vx_own hat' (vx_isRefq hU'.1) (vx_isRefq hN'.1) hU'.2.word hN'.2.word
  have hown' : s'.vm.findClass own = some m.cls := by rw [hvm]; exact hown
  have hins : (Cond.instantiable cls 6).before args s' = true := h _ (by simp [Bundle.ownAtoms])
  obtain ⟨vm₁, cX, kX, hfX, hkX, -, -, X₁, st1⟩ := Y.newCold hexec (own := own) (C := cls) (index := ik) (n := 6) hown' hk' hins hini'
    (g := F0 m pc ls rest) rfl (by rw [hb]; exact d0) (Nat.le_refl _) (Nat.le_refl _)
  generalize hT1 : (T.setVm vm₁).pushCell { cls := cX, slots := kX.instanceTypes.map defaultValue, vm := .none } = T1 at X₁ st1
  have hcat : (Value.ref T.heap.size).category = 1 := rfl
  have hcellA : T1.heap[T.heap.size]? = some (freshCell cX kX) := by rw [← hT1]; exact State.heap_pushCell_size _ _
  have d3' : decode c.code (pc + 3) = .ok (.dup, 1) := by rw [hb]; exact d3
  have d4' : decode c.code (pc + 4) = .ok (.ldc is, 2) := by rw [hb]; exact d4
  have hstr' : vk_R own is text sa s' := vk_R.warm hW0 hstr
  obtain ⟨U, hsteps, hrun, hend, hW, hsame, ce, hce, hO⟩ := X₁.ctorThrowS hexec htr (own := own) (cls := cls) (names := names) (ic := ic) hown' hcls hnames h (fun x hx => nomatch hx) hfX hkX hcellA (by rw [hhp, hT]; exact Nat.le_refl _) (msg := .ref sa) rfl
    (g := { method := m, pc := pc + 6, locals := ls, stack := .ref sa :: .ref T.heap.size :: .ref T.heap.size :: rest, locked := none }) rfl hsize rfl rfl (rest := rest) rfl
    (by rw [hb]; exact d6) (by rw [hb]; exact d9) hout hRframes (by simp only [List.map_cons, List.sum_cons, hcat]; omega) hlocks
  obtain ⟨f1, f2⟩ := vx_frame hsame
  rw [hhp] at f1 f2
  have hWs : s.WarmedH U.vm := State.WarmedH.trans hW0 hW
  have hcl : s.vm.findClass cls = some ce.cls := by
    have h9 := hO.cls
    rw [hvm] at h9
    exact h9
  have hall : s.sameButNew ({ U with vm := s.vm } : State) locs mc ms := by
    subst hA
    obtain ⟨e1, e2⟩ := hsame
    rw [State.setFrames_setFrames] at e1
    have h2 : (T.setVm s.vm).sameButNew ({ U with vm := s.vm } : State) [] (0 + 1) (0 + 6) := ⟨e1, e2⟩
    have h3 := X.same.trans h2
    rw [List.append_nil] at h3
    exact h3.mono hc hs
  refine ⟨U, ?_, .threw T.heap.size, hrun, hend, Or.inr ⟨T.heap.size, rfl, cls, ce, locs, hx U hWs.alike f1 (fun q hq => f2 q hq (fun z hz => nomatch hz)), hce, hO.vm, hcl, hWs, hall, hf⟩⟩
  refine st1 _ ?_
  show Steps p.tables e below (T1.setTop { method := m, pc := pc + 3, locals := ls, stack := .ref T.heap.size :: rest, locked := none }) _
  jvm_step X₁.here [X₁.here.top, hexec, d3', Value.category]
  exact X₁.ldcString hexec (own := own) (text := text) (index := is) (a := sa) hown' hstr'.1 hstr'.2
    (g := { method := m, pc := pc + 4, locals := ls, stack := .ref T.heap.size :: .ref T.heap.size :: rest, locked := none }) rfl d4' _ hsteps
/-- 'throw new E("text")', the text by a wide index -/
theorem vx_throwSW {cc : ByteArray} {pc : Nat} (hexec : p.tables.exec = Jvm.exec) (hb : c.code = cc) (hl : l.stackTraces = false) {own cls text : String} {names : List String} {ik is ic mc ms sa : Nat} {A : Nat → Prop}
    (hown : s.vm.findClass own = some m.cls) (hcls : Bundle.fit cls = true) (hnames : ∀ n ∈ names, Bundle.fit n = true)
    (hk : (Cond.classLink own ik cls).before args s = true) (hini : (Cond.initialized cls).before args s = true) (hstr : vk_R own is text sa s) (hat : ∀ w ∈ vx_atS own ic cls names, w.before args s = true)
    (hgood : ∀ w ∈ Cond.classLink own ik cls :: Cond.initialized cls :: vx_atS own ic cls names, vx_ot w = true)
    (hU : vx_Zq Bundle.tN "UNASSIGNED_STACK" Bundle.steD A s s.heap) (hN : vx_Zq Bundle.tN "SUPPRESSED_SENTINEL" Bundle.listD A s s.heap) (hS : va_S A s.heap H locs) (hsize : ls.size = c.maxLocals)
    (d0 : decode cc pc = .ok (.new ik, 3)) (d3 : decode cc (pc + 3) = .ok (.dup, 1)) (d4 : decode cc (pc + 4) = .ok (.ldc_w is, 3)) (d7 : decode cc (pc + 7) = .ok (.invokespecial ic, 3)) (d10 : decode cc (pc + 10) = .ok (.athrow, 1))
    (hout : ∀ x ∈ c.exceptionTable.toList, covers x (pc + 10) = false)
    (hRframes : names.length + 3 < R.frames) (hRlocals : (rest.map fun v => v.category).sum + (13 * (names.length + 1) + 43) ≤ R.locals) (hRcells : cells + 1 ≤ R.cells) (hRslots : slots + 6 ≤ R.slots) (hlocks : meth.locks = false)
    (hx : ∀ t : State, s.vm.Alike t.vm → H.size ≤ t.heap.size → (∀ q : Nat, q < H.size → t.heap[q]? = H[q]?) → XC cls s t)
    (hf : ∀ z ∈ locs, free z.base) (hc : cells + 1 ≤ mc) (hs : slots + 6 ≤ ms) :
    W p l e R s m args below meth c H locs cells slots (vx_MQ below Qc XC args s mc ms free) (F0 m pc ls rest) := by
  intro T hT X
  have htr : e.platform.stackTraces = false := (show e.platform.stackTraces = l.stackTraces by rw [X.admits.platform]).trans hl
  have Y := vx_rebase X (R' := { frames := R.frames, locals := R.locals, cells := 1, slots := 6 }) (Nat.le_refl _) (Nat.le_refl _) hRcells hRslots
  obtain ⟨s', hA⟩ : ∃ z, z = (T.setVm s.vm).setFrames (.invoking m args :: below) := ⟨_, rfl⟩
  rw [← hA] at Y
  have hvm : s'.vm = s.vm := by rw [hA]; rfl
  have hhp : s'.heap = H := by rw [hA]; exact hT
  have hW0 : s.WarmedH s'.vm := by rw [hvm]; exact State.WarmedH.refl s
  have hat' : ∀ w ∈ vx_atS own ic cls names, w.before args s' = true := fun w hw => vx_ot_at hW0 hvm.symm (hgood w (List.mem_cons_of_mem _ (List.mem_cons_of_mem _ hw))) (hat w hw)
  have hk' : (Cond.classLink own ik cls).before args s' = true := vx_ot_at hW0 hvm.symm (hgood _ List.mem_cons_self) hk
  have hini' : (Cond.initialized cls).before args s' = true := vx_ot_at hW0 hvm.symm (hgood _ (List.mem_cons_of_mem _ List.mem_cons_self)) hini
  have hU' : vx_Zq Bundle.tN "UNASSIGNED_STACK" Bundle.steD A s' s'.heap := by rw [hhp]; exact vx_Zq.moved hW0.alike (hU.kept hS.2.1)
  have hN' : vx_Zq Bundle.tN "SUPPRESSED_SENTINEL" Bundle.listD A s' s'.heap := by rw [hhp]; exact vx_Zq.moved hW0.alike (hN.kept hS.2.1)
  have h : ∀ w ∈ Bundle.ownAtoms own ic cls names, w.before args s' = true := vx_own hat' (vx_isRefq hU'.1) (vx_isRefq hN'.1) hU'.2.word hN'.2.word
  have hown' : s'.vm.findClass own = some m.cls := by rw [hvm]; exact hown
  have hins : (Cond.instantiable cls 6).before args s' = true := h _ (by simp [Bundle.ownAtoms])
  obtain ⟨vm₁, cX, kX, hfX, hkX, -, -, X₁, st1⟩ := Y.newCold hexec (own := own) (C := cls) (index := ik) (n := 6) hown' hk' hins hini'
    (g := F0 m pc ls rest) rfl (by rw [hb]; exact d0) (Nat.le_refl _) (Nat.le_refl _)
  generalize hT1 : (T.setVm vm₁).pushCell { cls := cX, slots := kX.instanceTypes.map defaultValue, vm := .none } = T1 at X₁ st1
  have hcat : (Value.ref T.heap.size).category = 1 := rfl
  have hcellA : T1.heap[T.heap.size]? = some (freshCell cX kX) := by rw [← hT1]; exact State.heap_pushCell_size _ _
  have d3' : decode c.code (pc + 3) = .ok (.dup, 1) := by rw [hb]; exact d3
  have d4' : decode c.code (pc + 4) = .ok (.ldc_w is, 3) := by rw [hb]; exact d4
  have hstr' : vk_R own is text sa s' := vk_R.warm hW0 hstr
  obtain ⟨U, hsteps, hrun, hend, hW, hsame, ce, hce, hO⟩ := X₁.ctorThrowS hexec htr (own := own) (cls := cls) (names := names) (ic := ic) hown' hcls hnames h (fun x hx => nomatch hx) hfX hkX hcellA (by rw [hhp, hT]; exact Nat.le_refl _) (msg := .ref sa) rfl
    (g := { method := m, pc := pc + 7, locals := ls, stack := .ref sa :: .ref T.heap.size :: .ref T.heap.size :: rest, locked := none }) rfl hsize rfl rfl (rest := rest) rfl
    (by rw [hb]; exact d7) (by rw [hb]; exact d10) hout hRframes (by simp only [List.map_cons, List.sum_cons, hcat]; omega) hlocks
  obtain ⟨f1, f2⟩ := vx_frame hsame
  rw [hhp] at f1 f2
  have hWs : s.WarmedH U.vm := State.WarmedH.trans hW0 hW
  have hcl : s.vm.findClass cls = some ce.cls := by
    have h9 := hO.cls
    rw [hvm] at h9
    exact h9
  have hall : s.sameButNew ({ U with vm := s.vm } : State) locs mc ms := by
    subst hA
    obtain ⟨e1, e2⟩ := hsame
    rw [State.setFrames_setFrames] at e1
    have h2 : (T.setVm s.vm).sameButNew ({ U with vm := s.vm } : State) [] (0 + 1) (0 + 6) := ⟨e1, e2⟩
    have h3 := X.same.trans h2
    rw [List.append_nil] at h3
    exact h3.mono hc hs
  refine ⟨U, ?_, .threw T.heap.size, hrun, hend, Or.inr ⟨T.heap.size, rfl, cls, ce, locs, hx U hWs.alike f1 (fun q hq => f2 q hq (fun z hz => nomatch hz)), hce, hO.vm, hcl, hWs, hall, hf⟩⟩
  refine st1 _ ?_
  show Steps p.tables e below (T1.setTop { method := m, pc := pc + 3, locals := ls, stack := .ref T.heap.size :: rest, locked := none }) _
  jvm_step X₁.here [X₁.here.top, hexec, d3', Value.category]
  exact X₁.ldcStringW hexec (own := own) (text := text) (index := is) (a := sa) hown' hstr'.1 hstr'.2
    (g := { method := m, pc := pc + 4, locals := ls, stack := .ref T.heap.size :: .ref T.heap.size :: rest, locked := none }) rfl d4' _ hsteps
end Ends
section Bodies
variable {l : Launch}
theorem vx_ofW {y : MethodName} {ws ws' : List Cond} {rm : Room} {Pc : Array Value → State → Prop} {Qc : Array Value → State → Outcome → State → Prop} {XC : String → State → State → Prop} {mc ms : Nat} {free : Addr → Prop} {cc : ByteArray} {maxL : Nat} {ret : Option FieldType}
    (hy : plainName y.cls = true) (hw : ws = Cond.code y cc maxL ret :: ws')
    (body : ∀ p e s m args below meth c s₁, BodyLoose p l y (headSpec ws rm) cc maxL ret e s m args below meth c s₁ → c.maxLocals = maxL → (∀ x ∈ c.exceptionTable.toList, False) → Pc args s →
      W p l e (headSpec ws rm).room s m args below meth c s.heap [] 0 0 (vx_MQ below Qc XC args s mc ms free) (entryFrame m args maxL)) : vx_Met l y ws rm Pc Qc XC mc ms free := by
  refine MetFree.of_bodyS (code := cc) (maxLocals := maxL) (ret := ret) hy ?_ ?_
  · intro args s m h hn
    obtain ⟨meth, c, h1, h2, h3, h4, h5, h6, -, -⟩ := Cond.code_spec hn (atoms_spec (ws := ws) h _ (by rw [hw]; exact List.mem_cons_self))
    exact ⟨meth, c, h1, h2, h3, h4, h5, h6⟩
  · intro p e s m args below meth c s₁ B hml hP _
    have hh0 : s₁.heap = s.heap := by rw [B.state]; rfl
    have ht : ∀ x ∈ c.exceptionTable.toList, False := by
      obtain ⟨meth9, c9, h1, h2, -, -, -, -, h7, -⟩ := Cond.code_spec B.named (atoms_spec (ws := ws) B.pre _ (by rw [hw]; exact List.mem_cons_self))
      cases Option.some.inj (h1.symm.trans B.method)
      cases Option.some.inj (h2.symm.trans (Stand.of_body B).code)
      intro x hx
      rw [Array.isEmpty_iff.mp h7] at hx
      cases hx
    obtain ⟨t, a1, o, b1, b2, b3⟩ := body p e s m args below meth c s₁ B hml ht hP s₁ hh0 (Stand.of_body B)
    exact ⟨t, o, a1, b1, b2, b3⟩
/-- the table of a body with handlers -/
theorem vx_table {p : Program} {x y : MethodName} {S : Spec} {cc bytes : ByteArray} {maxL maxL' : Nat} {ret ret' : Option FieldType} {e : Env} {s s₁ : State} {m : MethodId} {args : Array Value} {below : List Frame} {meth : Method} {c : Code} {hh : List (Nat × Nat × Nat × Nat)}
    (B : BodyLoose p l y S cc maxL ret e s m args below meth c s₁) (h : (Cond.codeWith y bytes maxL' ret' hh).before args s = true) : c.exceptionTable.toList = tableOf hh := by
  obtain ⟨m9, meth9, c9, hn9, h1, h2, -, -, h6, -⟩ := Cond.codeWith_spec h
  cases Option.some.inj (hn9.symm.trans B.named)
  cases Option.some.inj (h1.symm.trans B.method)
  cases Option.some.inj (h2.symm.trans (Stand.of_body B).code)
  rw [← h6, table_eq]
end Bodies
end VXA
/-! ===== END ===== -/
/-! ===== BEGIN a static call of a method with an exception table ===== -/
section VXS
variable {p : Program} {l : Launch} {e : Env} {R : Room} {s : State} {m : MethodId} {args : Array Value} {below : List Frame} {meth : Method} {c : Code} {T : State} {H : Heap} {locs : List Loc} {cells slots : Nat}
abbrev vx_CSW (R : Room) (s : State) (args : Array Value) (own : String) (index : Nat) (y : MethodName) (bytes : ByteArray) (maxL : Nat) (ret : Option FieldType) (hh : List (Nat × Nat × Nat × Nat)) (ws : List Cond) (rm : Room) (mc ms n : Nat) : Prop :=
  (rm.cells = mc ∧ rm.slots = ms ∧ rm.frames + 1 ≤ R.frames ∧ 8 + (maxL + 11) + rm.locals ≤ R.locals ∧ (∀ w ∈ ws, ∀ (a' : Array Value) (U : State), s.WarmedH U.vm → w.before a' U = true) ∧ Cond.codeWith y bytes maxL ret hh ∈ ws) ∧
  (Cond.codeWith y bytes maxL ret hh).before args s = true ∧ (Cond.initialized y.cls).before args s = true ∧ (y.cls ≠ "java/lang/invoke/MethodHandle" ∧ y.cls ≠ "java/lang/invoke/VarHandle") ∧
  (∀ sig, parseMethodDescriptor y.desc = some sig → n = sig.parameters.length) ∧ (Cond.methodLink own index y).before args s = true ∧ (Cond.static y).before args s = true
theorem vx_cwSW {own : String} {index maxL mc ms : Nat} {y : MethodName} {bytes : ByteArray} {ret : Option FieldType} {hh : List (Nat × Nat × Nat × Nat)} {Ts ws ws' : List Cond} {rm : Room} (n : Nat) (ht : ∀ w ∈ Ts, w.before args s = true) (hT : GoodIn Ts (va_wsS own index y ws)) (hw : ws = Cond.codeWith y bytes maxL ret hh :: ws') (hrc : rm.cells = mc) (hrs : rm.slots = ms)
    (hd : y.cls ≠ "java/lang/invoke/MethodHandle" ∧ y.cls ≠ "java/lang/invoke/VarHandle" ∧ (parseMethodDescriptor y.desc).map (fun d => d.parameters.length) = some n) (hR : rm.frames + 1 ≤ R.frames ∧ 8 + (maxL + 11) + rm.locals ≤ R.locals) :
    vx_CSW R s args own index y bytes maxL ret hh ws rm mc ms n := by
  have ok : ∀ w ∈ va_wsS own index y ws, w.before args s = true := fun w h => ht w (hT w h).1
  have hG : GoodIn Ts ws := fun w h => hT w (by unfold va_wsS; exact List.mem_append_right _ h)
  have hc : Cond.codeWith y bytes maxL ret hh ∈ ws := by rw [hw]; exact List.mem_cons_self
  refine ⟨⟨hrc, hrs, hR.1, hR.2, pay_in ht hG, hc⟩, ht _ (hG _ hc).1, ok _ (by simp [va_wsS]), ⟨hd.1, hd.2.1⟩, fun sig h => ?_, ok _ (by simp [va_wsS]), ok _ (by simp [va_wsS])⟩
  have h2 := hd.2.2
  rw [h] at h2
  exact (Option.some.inj h2).symm
theorem vx_callSW (X : Stand p l e R s m args below meth c T locs cells slots) (hexec : p.tables.exec = Jvm.exec) {own : String} {index : Nat} {y : MethodName} {bytes : ByteArray} {maxL : Nat} {ret : Option FieldType} {hh : List (Nat × Nat × Nat × Nat)}
    (hown : s.vm.findClass own = some m.cls) (hlink : (Cond.methodLink own index y).before args s = true) (hstat : (Cond.static y).before args s = true) (hinit : (Cond.initialized y.cls).before args s = true)
    (hcode : (Cond.codeWith y bytes maxL ret hh).before args s = true) (hy : y.cls ≠ "java/lang/invoke/MethodHandle" ∧ y.cls ≠ "java/lang/invoke/VarHandle")
    {W9 : Nat} {Pre : Pt → Array Value → Prop} {Post : Pt → Array Value → Option Value → Pt → Prop} (hK : Back l R p e below s args y 3 W9 Pre Post)
    {g : JFrame} (hg : g.method = m) (hsize : g.locals.size = c.maxLocals) {argsL rest : List Value} (hlen : ∀ sig, parseMethodDescriptor y.desc = some sig → argsL.length = sig.parameters.length)
    (hstack : g.stack = argsL.reverse ++ rest) (hW : 2 * g.monitorRoom + (rest.map fun v => v.category).sum ≤ W9) (hdg : decode c.code g.pc = .ok (.invokestatic index, 3))
    (hpre : ∀ vm₁, s.WarmedH vm₁ → Pre ⟨T.setVm vm₁, locs, cells, slots⟩ argsL.toArray) :
    ∃ (v : Option Value) (vm₁ : Vm) (B : Pt), s.WarmedH vm₁ ∧ Stand p l e R s m args below meth c B.U B.locs B.cells B.slots ∧ Post ⟨T.setVm vm₁, locs, cells, slots⟩ argsL.toArray v B ∧
      ∀ target, Steps p.tables e below (B.U.setTop { g with pc := g.pc + 3, stack := v.toList ++ rest }) target → Steps p.tables e below (T.setTop g) target := by
  obtain ⟨mk, methM, cM, hnamed, hmethM, -, -, -, -, -, -, hsigM⟩ := Cond.codeWith_spec hcode
  have hstatic : methM.isStatic = true := Cond.static_spec hnamed hmethM hstat
  obtain ⟨kP, hkP, -⟩ := className_of_methodNamed hnamed
  have hinitP : kP.init = .initialized := Cond.initialized_spec (findClass_of_methodNamed hnamed) hkP hinit
  obtain ⟨vm₁, X₁, hstep₁⟩ := X.invokestatic hexec hown hlink hnamed hmethM hstatic hkP hinitP hy (g := g) hg (argsL := argsL) (rest := rest) (hlen _ hsigM) hstack hdg
  obtain ⟨v, B, X', hpost, hsteps⟩ := hK m meth c ⟨T.setVm vm₁, locs, cells, slots⟩ { g with stack := rest } (.invokestatic index) mk argsL.toArray X₁ hg hsize hdg hW (X₁.named hnamed) (hpre vm₁ X₁.warmed)
  exact ⟨v, vm₁, B, X₁.warmed, X', hpost, fun target h => hstep₁ _ fun acts => by rw [doInvoke_state]; exact hsteps.trans h⟩
theorem vx_runSW {y : MethodName} {bytes cc : ByteArray} {maxL nL mc ms n index : Nat} {ret : Option FieldType} {hh : List (Nat × Nat × Nat × Nat)} {ws : List Cond} {rm : Room} {Pc : Array Value → State → Prop} {Qc : Array Value → State → Outcome → State → Prop} {free : Addr → Prop} {Ts : List Cond} {own : String} {As rest : List Value} {g : JFrame}
    (S : CallFix p m c cc nL s args Ts own) (hM : Met l y ws rm Pc Qc mc ms free) (cw : vx_CSW R s args own index y bytes maxL ret hh ws rm mc ms n) (hp : PreS s H Pc As)
    (hg : g.method = m) (hn : As.length = n) (hsize : g.locals.size = nL) (hstack : g.stack = As.reverse ++ rest) (hW : 2 * g.monitorRoom + (rest.map fun v => v.category).sum ≤ 8) (hdg : decode cc g.pc = .ok (.invokestatic index, 3)) (hf : cells + mc ≤ R.cells ∧ slots + ms ≤ R.slots) :
    va_Run p l e R s m args below meth c H locs cells slots mc ms g rest (Qc As.toArray) (free) := by
  obtain ⟨⟨hrc, hrs, hfr, hlo, hws, hcw⟩, hcode, hini, hy, hlen, hl, hstt⟩ := cw
  have hK : Back l R p e below s args y 3 8 (PreOf R mc ms Pc) (PostOf Qc mc ms free) := va_backW (hh := hh) (bytes := bytes) (maxL := maxL) (ret := ret) hM hp.1 hrc hrs hfr hlo hws hcw (fun a' U hW => word_at hW (Or.inl (by first | rfl | simp [Cond.onTables, Cond.keeps, Cond.steady])) hini)
  obtain ⟨hx, hb, hml, ho, -⟩ := S
  intro T hT X
  obtain ⟨v, vm₁, ⟨U', l2, c2, s2⟩, hW₁, X', ⟨g', mk, t, L, e1, e2, hq, h1, hL, h2, h3⟩, st⟩ := vx_callSW X hx (hh := hh) (bytes := bytes) (maxL := maxL) (ret := ret) ho hl hstt hini hcode hy hK hg (hsize.trans hml.symm) (argsL := As) (rest := rest) (fun sig h => hn.trans (hlen sig h)) hstack hW (by rw [hb]; exact hdg)
    (fun vm₁ hW₁ => ⟨hf.1, hf.2, hp.2 (T.setVm vm₁) hT hW₁⟩)
  dsimp only [Pt.U, Pt.locs, Pt.cells, Pt.slots] at X' e1 e2 h1 h2 h3 st
  subst h1; subst h2; subst h3
  exact ⟨v, (T.setVm vm₁).calling g' mk As.toArray, t, U', L, hT, X', hL, e1, e2, hq, st⟩
/-- not caught here, past rows that name other classes: it goes on to the caller -/
theorem vx_outP {p : Program} {l : Launch} {e : Env} {R : Room} {s : State} {m : MethodId} {args : Array Value} {below : List Frame} {meth : Method} {c : Code} {H : Heap} {locs : List Loc} {cells slots : Nat} {free : Addr → Prop} {ls : Array Slot} {rest : List Value} {Qc : Array Value → State → Outcome → State → Prop} {XC : String → State → State → Prop}
    {pc : Nat} {own E : String} {ce : Cell} {q : Addr} {mc ms : Nat} (hown : s.vm.findClass own = some m.cls) (hlocks : meth.locks = false)
    (hpass : ∀ z ∈ c.exceptionTable.toList, covers z pc = false ∨ (z.catchType ≠ 0 ∧ ∃ nm : String, (Cond.classLink own z.catchType nm).before args s = true ∧ va_Nc E nm s)) (hcell : H[q]? = some ce) (hv : ce.vm = .none) (hcl : s.vm.findClass E = some ce.cls)
    (hx : ∀ t : State, t.heap = H → s.vm.Alike t.vm → XC E s t) (hf : ∀ z ∈ locs, free z.base) (hc : cells ≤ mc) (hs : slots ≤ ms) :
    vx_W p l e R s m args below meth c H locs cells slots (vx_MQ below Qc XC args s mc ms free) (F0 m pc ls rest) q := by
  intro T hT X
  have hpl : e.platform.magicAccessors = ({} : Platform).magicAccessors := by rw [X.admits.platform]
  obtain ⟨vm', hW', X', st⟩ := X.outThrough hlocks q (g := F0 m pc ls rest) rfl rfl rfl (cell := ce) (by rw [hT]; exact hcell) (by rw [hv]; rfl)
    (by obtain ⟨k9, h9, -⟩ := Vm.findClass_spec hcl; exact ⟨k9, h9⟩) (fun z hz => by
      rcases hpass z hz with h | ⟨hz0, nm, hl1, hn1⟩
      · exact Or.inl h
      · obtain ⟨c6, hc6, hcl6⟩ := Cond.classLink_spec hown hl1 e.platform hpl
        obtain ⟨a8, b8, h1, h2, h3⟩ := hn1
        cases Option.some.inj (h1.symm.trans hcl)
        cases Option.some.inj (h2.symm.trans hc6)
        exact Or.inr ⟨hz0, _, hcl6, h3⟩)
  obtain ⟨g₀, hfr⟩ := X'.frames_eq
  have hcell9 : ((T.setVm vm').setFrames (.throwing q :: below)).heap[q]? = some ce := by
    show T.heap[q]? = some ce
    rw [hT]; exact hcell
  have hend : Ended ((T.setVm vm').setFrames (.throwing q :: below)) below (.threw q) := State.frames_setFrames _ (State.cur_lt_of_frames hfr)
  refine ⟨(T.setVm vm').setFrames (.throwing q :: below), ?_, .threw q, X'.here.running, hend, Or.inr ⟨q, rfl, E, ce, locs, hx _ hT (X'.ends _).1.alike, hcell9, hv, hcl, (X'.ends _).1, (X'.ends _).2.mono hc hs, hf⟩⟩
  rw [X.pushThrowing_eq]
  exact st
/-- a thing of a world lies in the heap -/
theorem vx_lt {D : va_G} {cl : List vw_C} {ws : va_W} {H1 : Heap} (h : va_P D cl ws H1) {k : Nat} {q : Nat × va_E} (hk : ws[k]? = some q) : q.1 < H1.size := (h k q hk).lt
end VXS
/-! ===== END ===== -/
/-! ===== BEGIN methods with a table of their own: called by a name, returning or throwing ===== -/
section VXH
/-! vx_backW, vx_callVX, vx_callSX, vx_callVW, vx_runVW, vx_runVX, vx_runSX, vx_ofWH follow the same proofs as their sisters above (Free/Laws.lean, Shelf42/LK1.lean); vx_outP calls Shelf42/NT130.lean (outThrough). -/
section
variable {l : Launch} {R : Room} {p : Program} {e : Env} {below : List Frame} {s : State} {sargs : Array Value} {y : MethodName} {len W9 : Nat}
theorem vx_backW {ws : List Cond} {rm : Room} {Pc : Array Value → State → Prop} {Qc : Array Value → State → Outcome → State → Prop} {XC : String → State → State → Prop} {mc ms : Nat} {free : Addr → Prop} {bytes : ByteArray} {maxL : Nat} {ret : Option FieldType} {hh : List (Nat × Nat × Nat × Nat)}
    (hM : vx_Met l y ws rm Pc Qc XC mc ms free) (hblind : FrameBlind Pc) (hrc : rm.cells = mc) (hrs : rm.slots = ms)
    (hframes : rm.frames + 1 ≤ R.frames) (hlocals : W9 + (maxL + 11) + rm.locals ≤ R.locals)
    (hws : ∀ w ∈ ws, ∀ a' U, s.WarmedH U.vm → w.before a' U = true) (hcode : Cond.codeWith y bytes maxL ret hh ∈ ws) (hinit : ∀ a' U, s.WarmedH U.vm → (Cond.initialized y.cls).before a' U = true) :
    vx_Back l R p e below s sargs y len W9 (PreOf R mc ms Pc) (PostOf Qc mc ms free) (vx_Post XC mc ms free) := by
  intro m meth c A g ig mk a X hg hsize hdg hW hn hp
  have h1 : (headSpec ws rm).pre.before a A.U = true := atoms_intro fun w hw => hws w hw _ _ X.warmed
  have h2 : (Cond.codeWith y bytes maxL ret hh).before a A.U = true := hws _ hcode _ _ X.warmed
  have h3 : (Cond.initialized y.cls).before a A.U = true := hinit _ _ X.warmed
  have h4 : A.cells + (headSpec ws rm).room.cells ≤ R.cells := by rw [show (headSpec ws rm).room.cells = mc from hrc]; exact hp.1
  have h5 : A.slots + (headSpec ws rm).room.slots ≤ R.slots := by rw [show (headSpec ws rm).room.slots = ms from hrs]; exact hp.2.1
  have hPc : Pc a (A.U.calling g mk a) := hblind _ _ _ _ hp.2.2
  obtain ⟨U, Ls, c0, s0⟩ := A
  dsimp only [Pt.U, Pt.locs, Pt.cells, Pt.slots] at h1 h2 h3 h4 h5 X hn hPc ⊢
  obtain ⟨m9, methY, cY, hn9, hmY, hcY, -, hlY, -⟩ := Cond.codeWith_spec h2
  cases Option.some.inj (hn9.symm.trans hn)
  obtain ⟨kY, hkY, -⟩ := className_of_methodNamed hn
  have hinitY : kY.init = .initialized := Cond.initialized_spec (findClass_of_methodNamed hn) hkY h3
  have h : At U g.method c below := by rw [hg]; exact X.here
  have hlocals9 : W9 + (maxL + 11) + (headSpec ws rm).room.locals ≤ R.locals := hlocals
  have happ : (headSpec ws rm).appliesLoose y e.platform (U.calling g mk a) = true :=
    Spec.appliesLoose_calling (g := g) h hdg hn hkY hinitY
      (X.room_calling (g := g) (R' := (headSpec ws rm).room) hsize hmY hcY hframes (by rw [hlY]; omega) h4 h5) h1
  obtain ⟨mid, hmid⟩ := h.above
  have hfr : (U.setTop g).frames = (.java g :: mid) ++ below := by rw [State.frames_setTop' g h.top, hmid]; rfl
  obtain ⟨o, s₂, hsteps, -, hend, hq⟩ := Steps.callFree hM p X.admits X.cas X.clock (acts := []) hfr happ hPc trivial
  have hq' : vx_Q Qc XC mc ms free a (U.calling g mk a) o s₂ := hq
  rw [State.frames_setTop' g h.top] at hend
  obtain ⟨g₀, hg0⟩ := Option.isSome_iff_exists.mp h.top
  obtain ⟨r, hr⟩ := State.topJava?_eq_some.mp hg0
  have hr' : (({ U with heap := s₂.heap, slotsUsed := s₂.slotsUsed } : State).setVm s₂.vm).frames = .java g₀ :: r := hr
  rcases hq' with ⟨hqc, L, hfe, hL⟩ | ⟨q, rfl, E, ce, L, hx, hce, hcv, hcl, hW₂, hsm, hL⟩
  · obtain ⟨⟨v, rfl⟩, hW₂, e2, q2, q3, q4, q5, q6⟩ := id hfe
    have e3 : s₂ = ({ (U.calling g mk a).setFrames s₂.frames with heap := s₂.heap, slotsUsed := s₂.slotsUsed } : State).setVm s₂.vm := by
      have : s₂ = ({ s₂ with vm := (U.calling g mk a).vm } : State).setVm s₂.vm := rfl
      rw [e2] at this
      exact this
    obtain ⟨c₂, i₂, len₂, hc₂, hd₂, hf₂⟩ := hend
    have hW' : U.WarmedH s₂.vm := hW₂
    have hcc : c₂ = c := by
      have h1 : s₂.code? g.method = U.code? g.method := by
        rw [State.code?_eq, State.code?_eq, hW'.alike.method?]
      exact Option.some.inj (hc₂.symm.trans (h1.trans h.code))
    subst hcc
    have hlen : len₂ = len := by rw [hdg] at hd₂; cases hd₂; rfl
    subst hlen
    have hs₂ : s₂ = (({ U with heap := s₂.heap, slotsUsed := s₂.slotsUsed } : State).setVm s₂.vm).setTop { g with pc := g.pc + len₂, stack := v.toList ++ g.stack } := by
      refine e3.trans ?_
      rw [hf₂, State.calling_eq h.top, State.setFrames_setFrames, State.setTop_of_frames _ hr', hr]
      rfl
    have hsame : U.sameButNew ({ U with heap := s₂.heap, slotsUsed := s₂.slotsUsed } : State) L mc ms := by
      refine ⟨?_, q2, q3, q4, q5, q6⟩
      obtain ⟨t, ht, -⟩ := State.frames_cons hr
      show ({ U with heap := s₂.heap, slotsUsed := s₂.slotsUsed } : State) = { U.setFrames U.frames with heap := s₂.heap, slotsUsed := s₂.slotsUsed }
      rw [State.setFrames_self ht]
    subst hg
    refine Or.inl ⟨v, ⟨(({ U with heap := s₂.heap, slotsUsed := s₂.slotsUsed } : State).setVm s₂.vm), Ls ++ L, c0 + mc, s0 + ms⟩,
      ⟨X.admits, X.cas, X.clock, X.frames, X.room, X.hears, X.method, X.code, (X.here.setHeapUsed s₂.heap s₂.slotsUsed).setVm hW'.alike, X.tail, State.WarmedH.trans X.warmed hW', X.limits, X.bytes, X.same.trans (hsame.setVm s.vm)⟩,
      ⟨g, mk, s₂, L, rfl, rfl, hqc, rfl, hL, rfl, rfl⟩, ?_⟩
    show Steps p.tables e below _ ((({ U with heap := s₂.heap, slotsUsed := s₂.slotsUsed } : State).setVm s₂.vm).setTop { g with pc := g.pc + len₂, stack := v.toList ++ g.stack })
    rw [← hs₂]
    exact hsteps
  · obtain ⟨e2, q2, q3, q4, q5, q6⟩ := id hsm
    have e3 : s₂ = ({ (U.calling g mk a).setFrames s₂.frames with heap := s₂.heap, slotsUsed := s₂.slotsUsed } : State).setVm s₂.vm := by
      have : s₂ = ({ s₂ with vm := (U.calling g mk a).vm } : State).setVm s₂.vm := rfl
      rw [e2] at this
      exact this
    have hf₂ : s₂.frames = .throwing q :: .java g :: U.frames.tail := hend
    have hW' : U.WarmedH s₂.vm := hW₂
    have hs₂ : s₂ = ((({ U with heap := s₂.heap, slotsUsed := s₂.slotsUsed } : State).setVm s₂.vm).setTop g).pushFrame (.throwing q) := by
      refine e3.trans ?_
      rw [hf₂, State.calling_eq h.top, State.setFrames_setFrames, State.pushFrame, State.frames_setTop _ hr', State.setTop_of_frames _ hr', State.setFrames_setFrames, hr]
      rfl
    have hsame : U.sameButNew ({ U with heap := s₂.heap, slotsUsed := s₂.slotsUsed } : State) L mc ms := by
      refine ⟨?_, q2, q3, q4, q5, q6⟩
      obtain ⟨t, ht, -⟩ := State.frames_cons hr
      show ({ U with heap := s₂.heap, slotsUsed := s₂.slotsUsed } : State) = { U.setFrames U.frames with heap := s₂.heap, slotsUsed := s₂.slotsUsed }
      rw [State.setFrames_self ht]
    subst hg
    refine Or.inr ⟨q, ⟨(({ U with heap := s₂.heap, slotsUsed := s₂.slotsUsed } : State).setVm s₂.vm), Ls ++ L, c0 + mc, s0 + ms⟩,
      ⟨X.admits, X.cas, X.clock, X.frames, X.room, X.hears, X.method, X.code, (X.here.setHeapUsed s₂.heap s₂.slotsUsed).setVm hW'.alike, X.tail, State.WarmedH.trans X.warmed hW', X.limits, X.bytes, X.same.trans (hsame.setVm s.vm)⟩,
      ⟨g, mk, s₂, L, E, ce, rfl, rfl, hx, hce, hcv, hcl, rfl, hL, rfl, rfl⟩, ?_⟩
    show Steps p.tables e below _ (((({ U with heap := s₂.heap, slotsUsed := s₂.slotsUsed } : State).setVm s₂.vm).setTop g).pushFrame (.throwing q))
    rw [← hs₂]
    exact hsteps
end
variable {p : Program} {l : Launch} {e : Env} {R : Room} {s : State} {m : MethodId} {args : Array Value} {below : List Frame} {meth : Method} {c : Code} {T : State} {H : Heap} {locs : List Loc} {cells slots : Nat}
theorem vx_callVX (X : Stand p l e R s m args below meth c T locs cells slots) (hexec : p.tables.exec = Jvm.exec) {own C : String} {index : Nat} {y : MethodName} {bytes : ByteArray} {maxL : Nat} {ret : Option FieldType} {hh : List (Nat × Nat × Nat × Nat)}
    (hown : s.vm.findClass own = some m.cls) (hlink : (Cond.methodLink own index y).before args s = true) (hinst : (Cond.instanceMethod y).before args s = true) (hsel : (Cond.selects C y y).before args s = true)
    (hcode : (Cond.codeWith y bytes maxL ret hh).before args s = true) (hy : y.cls ≠ "java/lang/invoke/MethodHandle" ∧ y.cls ≠ "java/lang/invoke/VarHandle")
    {W9 : Nat} {Pre : Pt → Array Value → Prop} {Post : Pt → Array Value → Option Value → Pt → Prop} {PostX : Pt → Array Value → Addr → Pt → Prop} (hK : vx_Back l R p e below s args y 3 W9 Pre Post PostX)
    {b : Addr} {cellB : Cell} (hcell : T.heap[b]? = some cellB) (hobj : cellB.vm.isStatics = false) (hcls : s.vm.findClass C = some cellB.cls)
    {g : JFrame} (hg : g.method = m) (hsize : g.locals.size = c.maxLocals) {argsL rest : List Value} (hlen : ∀ sig, parseMethodDescriptor y.desc = some sig → argsL.length = sig.parameters.length)
    (hstack : g.stack = argsL.reverse ++ .ref b :: rest) (hW : 2 * g.monitorRoom + (rest.map fun v => v.category).sum ≤ W9) (hdg : decode c.code g.pc = .ok (.invokevirtual index, 3))
    (hpre : ∀ vm₁, s.WarmedH vm₁ → Pre ⟨T.setVm vm₁, locs, cells, slots⟩ (Value.ref b :: argsL).toArray) :
    (∃ (v : Option Value) (vm₁ : Vm) (B : Pt), s.WarmedH vm₁ ∧ Stand p l e R s m args below meth c B.U B.locs B.cells B.slots ∧ Post ⟨T.setVm vm₁, locs, cells, slots⟩ (Value.ref b :: argsL).toArray v B ∧
      ∀ target, Steps p.tables e below (B.U.setTop { g with pc := g.pc + 3, stack := v.toList ++ rest }) target → Steps p.tables e below (T.setTop g) target) ∨
    (∃ (q : Addr) (vm₁ : Vm) (B : Pt), s.WarmedH vm₁ ∧ Stand p l e R s m args below meth c B.U B.locs B.cells B.slots ∧ PostX ⟨T.setVm vm₁, locs, cells, slots⟩ (Value.ref b :: argsL).toArray q B ∧
      Steps p.tables e below (T.setTop g) ((B.U.setTop { g with stack := rest }).pushFrame (.throwing q))) := by
  obtain ⟨mk, methM, hnamed, hmethM, hstM, habM⟩ := Cond.instanceMethod_spec hinst
  obtain ⟨m8, methM', cM, hn8, hmethM', -, -, -, -, -, -, hsigM⟩ := Cond.codeWith_spec hcode
  cases Option.some.inj (hn8.symm.trans hnamed)
  cases hmethM.symm.trans hmethM'
  obtain ⟨c2, r2, m2, q1, q2, q3, q4, kP, hkP, hkPi⟩ := Cond.selects_spec hsel
  cases hcls.symm.trans q1
  cases (State.methodFound?_of_named hnamed hy).symm.trans q2
  cases hnamed.symm.trans q3
  have hselP : selectMethod e.platform s.vm cellB.cls mk = .method mk := by rw [Launch.admits_selectMethod X.admits]; exact q4
  obtain ⟨vm₁, X₁, hstep₁⟩ := X.invokevirtual hexec hown hlink hnamed hmethM hstM hkP hkPi hy (a := b) (cell := cellB) hcell
    (fun z h => by rw [h] at hobj; cases hobj) hselP hmethM habM hkP hkPi (g := g) hg (argsL := argsL) (rest := rest) (hlen _ hsigM) hstack hdg
  rcases hK m meth c ⟨T.setVm vm₁, locs, cells, slots⟩ { g with stack := rest } (.invokevirtual index) mk (Value.ref b :: argsL).toArray X₁ hg hsize hdg hW (X₁.named hnamed) (hpre vm₁ X₁.warmed) with ⟨v, B, X', hpost, hsteps⟩ | ⟨q, B, X', hpost, hsteps⟩
  · exact Or.inl ⟨v, vm₁, B, X₁.warmed, X', hpost, fun target h => hstep₁ _ fun acts => by rw [doInvoke_state]; exact hsteps.trans h⟩
  · exact Or.inr ⟨q, vm₁, B, X₁.warmed, X', hpost, hstep₁ _ fun acts => by rw [doInvoke_state]; exact hsteps⟩
theorem vx_callSX (X : Stand p l e R s m args below meth c T locs cells slots) (hexec : p.tables.exec = Jvm.exec) {own : String} {index : Nat} {y : MethodName} {bytes : ByteArray} {maxL : Nat} {ret : Option FieldType} {hh : List (Nat × Nat × Nat × Nat)}
    (hown : s.vm.findClass own = some m.cls) (hlink : (Cond.methodLink own index y).before args s = true) (hstat : (Cond.static y).before args s = true) (hinit : (Cond.initialized y.cls).before args s = true)
    (hcode : (Cond.codeWith y bytes maxL ret hh).before args s = true) (hy : y.cls ≠ "java/lang/invoke/MethodHandle" ∧ y.cls ≠ "java/lang/invoke/VarHandle")
    {W9 : Nat} {Pre : Pt → Array Value → Prop} {Post : Pt → Array Value → Option Value → Pt → Prop} {PostX : Pt → Array Value → Addr → Pt → Prop} (hK : vx_Back l R p e below s args y 3 W9 Pre Post PostX)
    {g : JFrame} (hg : g.method = m) (hsize : g.locals.size = c.maxLocals) {argsL rest : List Value} (hlen : ∀ sig, parseMethodDescriptor y.desc = some sig → argsL.length = sig.parameters.length)
    (hstack : g.stack = argsL.reverse ++ rest) (hW : 2 * g.monitorRoom + (rest.map fun v => v.category).sum ≤ W9) (hdg : decode c.code g.pc = .ok (.invokestatic index, 3))
    (hpre : ∀ vm₁, s.WarmedH vm₁ → Pre ⟨T.setVm vm₁, locs, cells, slots⟩ argsL.toArray) :
    (∃ (v : Option Value) (vm₁ : Vm) (B : Pt), s.WarmedH vm₁ ∧ Stand p l e R s m args below meth c B.U B.locs B.cells B.slots ∧ Post ⟨T.setVm vm₁, locs, cells, slots⟩ argsL.toArray v B ∧
      ∀ target, Steps p.tables e below (B.U.setTop { g with pc := g.pc + 3, stack := v.toList ++ rest }) target → Steps p.tables e below (T.setTop g) target) ∨
    (∃ (q : Addr) (vm₁ : Vm) (B : Pt), s.WarmedH vm₁ ∧ Stand p l e R s m args below meth c B.U B.locs B.cells B.slots ∧ PostX ⟨T.setVm vm₁, locs, cells, slots⟩ argsL.toArray q B ∧
      Steps p.tables e below (T.setTop g) ((B.U.setTop { g with stack := rest }).pushFrame (.throwing q))) := by
  obtain ⟨mk, methM, cM, hnamed, hmethM, -, -, -, -, -, -, hsigM⟩ := Cond.codeWith_spec hcode
  have hstatic : methM.isStatic = true := Cond.static_spec hnamed hmethM hstat
  obtain ⟨kP, hkP, -⟩ := className_of_methodNamed hnamed
  have hinitP : kP.init = .initialized := Cond.initialized_spec (findClass_of_methodNamed hnamed) hkP hinit
  obtain ⟨vm₁, X₁, hstep₁⟩ := X.invokestatic hexec hown hlink hnamed hmethM hstatic hkP hinitP hy (g := g) hg (argsL := argsL) (rest := rest) (hlen _ hsigM) hstack hdg
  rcases hK m meth c ⟨T.setVm vm₁, locs, cells, slots⟩ { g with stack := rest } (.invokestatic index) mk argsL.toArray X₁ hg hsize hdg hW (X₁.named hnamed) (hpre vm₁ X₁.warmed) with ⟨v, B, X', hpost, hsteps⟩ | ⟨q, B, X', hpost, hsteps⟩
  · exact Or.inl ⟨v, vm₁, B, X₁.warmed, X', hpost, fun target h => hstep₁ _ fun acts => by rw [doInvoke_state]; exact hsteps.trans h⟩
  · exact Or.inr ⟨q, vm₁, B, X₁.warmed, X', hpost, hstep₁ _ fun acts => by rw [doInvoke_state]; exact hsteps⟩
theorem vx_callVW (X : Stand p l e R s m args below meth c T locs cells slots) (hexec : p.tables.exec = Jvm.exec) {own C : String} {index : Nat} {y : MethodName} {bytes : ByteArray} {maxL : Nat} {ret : Option FieldType} {hh : List (Nat × Nat × Nat × Nat)}
    (hown : s.vm.findClass own = some m.cls) (hlink : (Cond.methodLink own index y).before args s = true) (hinst : (Cond.instanceMethod y).before args s = true) (hsel : (Cond.selects C y y).before args s = true)
    (hcode : (Cond.codeWith y bytes maxL ret hh).before args s = true) (hy : y.cls ≠ "java/lang/invoke/MethodHandle" ∧ y.cls ≠ "java/lang/invoke/VarHandle")
    {W9 : Nat} {Pre : Pt → Array Value → Prop} {Post : Pt → Array Value → Option Value → Pt → Prop} (hK : Back l R p e below s args y 3 W9 Pre Post)
    {b : Addr} {cellB : Cell} (hcell : T.heap[b]? = some cellB) (hobj : cellB.vm.isStatics = false) (hcls : s.vm.findClass C = some cellB.cls)
    {g : JFrame} (hg : g.method = m) (hsize : g.locals.size = c.maxLocals) {argsL rest : List Value} (hlen : ∀ sig, parseMethodDescriptor y.desc = some sig → argsL.length = sig.parameters.length)
    (hstack : g.stack = argsL.reverse ++ .ref b :: rest) (hW : 2 * g.monitorRoom + (rest.map fun v => v.category).sum ≤ W9) (hdg : decode c.code g.pc = .ok (.invokevirtual index, 3))
    (hpre : ∀ vm₁, s.WarmedH vm₁ → Pre ⟨T.setVm vm₁, locs, cells, slots⟩ (Value.ref b :: argsL).toArray) :
    ∃ (v : Option Value) (vm₁ : Vm) (B : Pt), s.WarmedH vm₁ ∧ Stand p l e R s m args below meth c B.U B.locs B.cells B.slots ∧ Post ⟨T.setVm vm₁, locs, cells, slots⟩ (Value.ref b :: argsL).toArray v B ∧
      ∀ target, Steps p.tables e below (B.U.setTop { g with pc := g.pc + 3, stack := v.toList ++ rest }) target → Steps p.tables e below (T.setTop g) target := by
  obtain ⟨mk, methM, hnamed, hmethM, hstM, habM⟩ := Cond.instanceMethod_spec hinst
  obtain ⟨m8, methM', cM, hn8, hmethM', -, -, -, -, -, -, hsigM⟩ := Cond.codeWith_spec hcode
  cases Option.some.inj (hn8.symm.trans hnamed)
  cases hmethM.symm.trans hmethM'
  obtain ⟨c2, r2, m2, q1, q2, q3, q4, kP, hkP, hkPi⟩ := Cond.selects_spec hsel
  cases hcls.symm.trans q1
  cases (State.methodFound?_of_named hnamed hy).symm.trans q2
  cases hnamed.symm.trans q3
  have hselP : selectMethod e.platform s.vm cellB.cls mk = .method mk := by rw [Launch.admits_selectMethod X.admits]; exact q4
  obtain ⟨vm₁, X₁, hstep₁⟩ := X.invokevirtual hexec hown hlink hnamed hmethM hstM hkP hkPi hy (a := b) (cell := cellB) hcell
    (fun z h => by rw [h] at hobj; cases hobj) hselP hmethM habM hkP hkPi (g := g) hg (argsL := argsL) (rest := rest) (hlen _ hsigM) hstack hdg
  obtain ⟨v, B, X', hpost, hsteps⟩ := hK m meth c ⟨T.setVm vm₁, locs, cells, slots⟩ { g with stack := rest } (.invokevirtual index) mk (Value.ref b :: argsL).toArray X₁ hg hsize hdg hW (X₁.named hnamed) (hpre vm₁ X₁.warmed)
  exact ⟨v, vm₁, B, X₁.warmed, X', hpost, fun target h => hstep₁ _ fun acts => by rw [doInvoke_state]; exact hsteps.trans h⟩
abbrev vx_CVW (R : Room) (s : State) (args : Array Value) (own C : String) (index : Nat) (y : MethodName) (bytes : ByteArray) (maxL : Nat) (ret : Option FieldType) (hh : List (Nat × Nat × Nat × Nat)) (ws : List Cond) (rm : Room) (mc ms n : Nat) : Prop :=
  (rm.cells = mc ∧ rm.slots = ms ∧ rm.frames + 1 ≤ R.frames ∧ 8 + (maxL + 11) + rm.locals ≤ R.locals ∧ (∀ w ∈ ws, ∀ (a' : Array Value) (U : State), s.WarmedH U.vm → w.before a' U = true) ∧ Cond.codeWith y bytes maxL ret hh ∈ ws) ∧
  (Cond.codeWith y bytes maxL ret hh).before args s = true ∧ (Cond.initialized y.cls).before args s = true ∧ (y.cls ≠ "java/lang/invoke/MethodHandle" ∧ y.cls ≠ "java/lang/invoke/VarHandle") ∧
  (∀ sig, parseMethodDescriptor y.desc = some sig → n = sig.parameters.length) ∧ (Cond.methodLink own index y).before args s = true ∧ (Cond.instanceMethod y).before args s = true ∧ (Cond.selects C y y).before args s = true
theorem vx_cwVW {own C : String} {index maxL mc ms : Nat} {y : MethodName} {bytes : ByteArray} {ret : Option FieldType} {hh : List (Nat × Nat × Nat × Nat)} {Ts ws ws' : List Cond} {rm : Room} (n : Nat) (ht : ∀ w ∈ Ts, w.before args s = true) (hT : GoodIn Ts (wsV own index C y ws)) (hw : ws = Cond.codeWith y bytes maxL ret hh :: ws') (hrc : rm.cells = mc) (hrs : rm.slots = ms)
    (hd : y.cls = C ∧ y.cls ≠ "java/lang/invoke/MethodHandle" ∧ y.cls ≠ "java/lang/invoke/VarHandle" ∧ (parseMethodDescriptor y.desc).map (fun d => d.parameters.length) = some n) (hR : rm.frames + 1 ≤ R.frames ∧ 8 + (maxL + 11) + rm.locals ≤ R.locals) :
    vx_CVW R s args own C index y bytes maxL ret hh ws rm mc ms n := by
  obtain ⟨hC, hd⟩ := hd
  subst hC
  have ok : ∀ w ∈ wsV own index y.cls y ws, w.before args s = true := fun w h => ht w (hT w h).1
  have hG : GoodIn Ts ws := fun w h => hT w (by unfold wsV; exact List.mem_append_right _ h)
  have hc : Cond.codeWith y bytes maxL ret hh ∈ ws := by rw [hw]; exact List.mem_cons_self
  refine ⟨⟨hrc, hrs, hR.1, hR.2, pay_in ht hG, hc⟩, ht _ (hG _ hc).1, ok _ (by simp [wsV]), ⟨hd.1, hd.2.1⟩, fun sig h => ?_, ok _ (by simp [wsV]), ok _ (by simp [wsV]), ok _ (by simp [wsV])⟩
  have h2 := hd.2.2
  rw [h] at h2
  exact (Option.some.inj h2).symm
theorem vx_runVW {y : MethodName} {bytes cc : ByteArray} {maxL nL mc ms n index : Nat} {ret : Option FieldType} {hh : List (Nat × Nat × Nat × Nat)} {ws : List Cond} {rm : Room} {Pc : Array Value → State → Prop} {Qc : Array Value → State → Outcome → State → Prop} {free : Addr → Prop} {Ts : List Cond} {own C : String} {b : Addr} {As rest : List Value} {g : JFrame}
    (S : CallFix p m c cc nL s args Ts own) (hM : Met l y ws rm Pc Qc mc ms free) (cw : vx_CVW R s args own C index y bytes maxL ret hh ws rm mc ms n) (hp : PreV s H C b Pc As)
    (hg : g.method = m) (hn : As.length = n) (hsize : g.locals.size = nL) (hstack : g.stack = As.reverse ++ .ref b :: rest) (hW : 2 * g.monitorRoom + (rest.map fun v => v.category).sum ≤ 8) (hdg : decode cc g.pc = .ok (.invokevirtual index, 3)) (hf : cells + mc ≤ R.cells ∧ slots + ms ≤ R.slots) :
    va_Run p l e R s m args below meth c H locs cells slots mc ms g rest (Qc (Value.ref b :: As).toArray) free := by
  obtain ⟨⟨hrc, hrs, hfr, hlo, hws, hcw⟩, hcode, hini, hy, hlen, hl, hin, hse⟩ := cw
  have hK : Back l R p e below s args y 3 8 (PreOf R mc ms Pc) (PostOf Qc mc ms free) := va_backW (hh := hh) (bytes := bytes) (maxL := maxL) (ret := ret) hM hp.1 hrc hrs hfr hlo hws hcw (fun a' U hW => word_at hW (Or.inl (by first | rfl | simp [Cond.onTables, Cond.keeps, Cond.steady])) hini)
  obtain ⟨hx, hb, hml, ho, -⟩ := S
  obtain ⟨-, ⟨cellB, hcB, hoB, hclB⟩, hPc⟩ := hp
  intro T hT X
  obtain ⟨v, vm₁, ⟨U', l2, c2, s2⟩, hW₁, X', ⟨g', mk, t, L, e1, e2, hq, h1, hL, h2, h3⟩, st⟩ := vx_callVW X hx (C := C) (hh := hh) (bytes := bytes) (maxL := maxL) (ret := ret) ho hl hin hse hcode hy hK (by rw [hT]; exact hcB) hoB hclB hg (hsize.trans hml.symm) (argsL := As) (rest := rest) (fun sig h => hn.trans (hlen sig h)) hstack hW (by rw [hb]; exact hdg)
    (fun vm₁ hW₁ => ⟨hf.1, hf.2, hPc (T.setVm vm₁) hT hW₁⟩)
  dsimp only [Pt.U, Pt.locs, Pt.cells, Pt.slots] at X' e1 e2 h1 h2 h3 st
  subst h1; subst h2; subst h3
  exact ⟨v, (T.setVm vm₁).calling g' mk (Value.ref b :: As).toArray, t, U', L, hT, X', hL, e1, e2, hq, st⟩
section
variable {y : MethodName} {bytes cc : ByteArray} {maxL nL mc ms n index : Nat} {ret : Option FieldType} {ws : List Cond} {rm : Room} {Pc : Array Value → State → Prop} {Qc : Array Value → State → Outcome → State → Prop} {XC : String → State → State → Prop} {free : Addr → Prop} {Ts : List Cond} {own C : String} {b : Addr} {As rest : List Value} {g : JFrame}
theorem vx_runVX {hh : List (Nat × Nat × Nat × Nat)} (S : CallFix p m c cc nL s args Ts own) (hM : vx_Met l y ws rm Pc Qc XC mc ms free) (cw : vx_CVW R s args own C index y bytes maxL ret hh ws rm mc ms n) (hp : PreV s H C b Pc As)
    (hg : g.method = m) (hn : As.length = n) (hsize : g.locals.size = nL) (hstack : g.stack = As.reverse ++ .ref b :: rest) (hW : 2 * g.monitorRoom + (rest.map fun v => v.category).sum ≤ 8) (hdg : decode cc g.pc = .ok (.invokevirtual index, 3)) (hf : cells + mc ≤ R.cells ∧ slots + ms ≤ R.slots) :
    vx_Run p l e R s m args below meth c H locs cells slots mc ms g rest (Qc (Value.ref b :: As).toArray) XC free := by
  obtain ⟨⟨hrc, hrs, hfr, hlo, hws, hcw⟩, hcode, hini, hy, hlen, hl, hin, hse⟩ := cw
  have hK : vx_Back l R p e below s args y 3 8 (PreOf R mc ms Pc) (PostOf Qc mc ms free) (vx_Post XC mc ms free) := vx_backW (hh := hh) (bytes := bytes) (maxL := maxL) (ret := ret) hM hp.1 hrc hrs hfr hlo hws hcw (fun a' U hW => word_at hW (Or.inl (by first | rfl | simp [Cond.onTables, Cond.keeps, Cond.steady])) hini)
  obtain ⟨hx, hb, hml, ho, -⟩ := S
  obtain ⟨-, ⟨cellB, hcB, hoB, hclB⟩, hPc⟩ := hp
  intro T hT X
  rcases vx_callVX X hx (C := C) (hh := hh) (bytes := bytes) (maxL := maxL) (ret := ret) ho hl hin hse hcode hy hK (by rw [hT]; exact hcB) hoB hclB hg (hsize.trans hml.symm) (argsL := As) (rest := rest) (fun sig h => hn.trans (hlen sig h)) hstack hW (by rw [hb]; exact hdg)
    (fun vm₁ hW₁ => ⟨hf.1, hf.2, hPc (T.setVm vm₁) hT hW₁⟩) with ⟨v, vm₁, ⟨U', l2, c2, s2⟩, hW₁, X', ⟨g', mk, t, L, e1, e2, hq, h1, hL, h2, h3⟩, st⟩ | ⟨q, vm₁, ⟨U', l2, c2, s2⟩, hW₁, X', ⟨g', mk, t, L, E, ce, e1, e2, hq, hce, hcv, hcl, h1, hL, h2, h3⟩, st⟩
  · dsimp only [Pt.U, Pt.locs, Pt.cells, Pt.slots] at X' e1 e2 h1 h2 h3 st
    subst h1; subst h2; subst h3
    exact Or.inl ⟨v, (T.setVm vm₁).calling g' mk (Value.ref b :: As).toArray, t, U', L, hT, X', hL, e1, e2, hq, st⟩
  · dsimp only [Pt.U, Pt.locs, Pt.cells, Pt.slots] at X' e1 e2 h1 h2 h3 st hcl
    subst h1; subst h2; subst h3
    exact Or.inr ⟨q, (T.setVm vm₁).calling g' mk (Value.ref b :: As).toArray, t, U', L, E, ce, hT, X', hL, e1, e2, hq, hce, hcv, vx_cls hW₁ hcl, st⟩
theorem vx_runSX {hh : List (Nat × Nat × Nat × Nat)} (S : CallFix p m c cc nL s args Ts own) (hM : vx_Met l y ws rm Pc Qc XC mc ms free) (cw : vx_CSW R s args own index y bytes maxL ret hh ws rm mc ms n) (hp : PreS s H Pc As)
    (hg : g.method = m) (hn : As.length = n) (hsize : g.locals.size = nL) (hstack : g.stack = As.reverse ++ rest) (hW : 2 * g.monitorRoom + (rest.map fun v => v.category).sum ≤ 8) (hdg : decode cc g.pc = .ok (.invokestatic index, 3)) (hf : cells + mc ≤ R.cells ∧ slots + ms ≤ R.slots) :
    vx_Run p l e R s m args below meth c H locs cells slots mc ms g rest (Qc As.toArray) XC free := by
  obtain ⟨⟨hrc, hrs, hfr, hlo, hws, hcw⟩, hcode, hini, hy, hlen, hl, hstt⟩ := cw
  have hK : vx_Back l R p e below s args y 3 8 (PreOf R mc ms Pc) (PostOf Qc mc ms free) (vx_Post XC mc ms free) := vx_backW (hh := hh) (bytes := bytes) (maxL := maxL) (ret := ret) hM hp.1 hrc hrs hfr hlo hws hcw (fun a' U hW => word_at hW (Or.inl (by first | rfl | simp [Cond.onTables, Cond.keeps, Cond.steady])) hini)
  obtain ⟨hx, hb, hml, ho, -⟩ := S
  intro T hT X
  rcases vx_callSX X hx (hh := hh) (bytes := bytes) (maxL := maxL) (ret := ret) ho hl hstt hini hcode hy hK hg (hsize.trans hml.symm) (argsL := As) (rest := rest) (fun sig h => hn.trans (hlen sig h)) hstack hW (by rw [hb]; exact hdg)
    (fun vm₁ hW₁ => ⟨hf.1, hf.2, hp.2 (T.setVm vm₁) hT hW₁⟩) with ⟨v, vm₁, ⟨U', l2, c2, s2⟩, hW₁, X', ⟨g', mk, t, L, e1, e2, hq, h1, hL, h2, h3⟩, st⟩ | ⟨q, vm₁, ⟨U', l2, c2, s2⟩, hW₁, X', ⟨g', mk, t, L, E, ce, e1, e2, hq, hce, hcv, hcl, h1, hL, h2, h3⟩, st⟩
  · dsimp only [Pt.U, Pt.locs, Pt.cells, Pt.slots] at X' e1 e2 h1 h2 h3 st
    subst h1; subst h2; subst h3
    exact Or.inl ⟨v, (T.setVm vm₁).calling g' mk As.toArray, t, U', L, hT, X', hL, e1, e2, hq, st⟩
  · dsimp only [Pt.U, Pt.locs, Pt.cells, Pt.slots] at X' e1 e2 h1 h2 h3 st hcl
    subst h1; subst h2; subst h3
    exact Or.inr ⟨q, (T.setVm vm₁).calling g' mk As.toArray, t, U', L, E, ce, hT, X', hL, e1, e2, hq, hce, hcv, vx_cls hW₁ hcl, st⟩
end
end VXH
theorem vx_ofWH {l : Launch} {y : MethodName} {ws ws' : List Cond} {rm : Room} {Pc : Array Value → State → Prop} {Qc : Array Value → State → Outcome → State → Prop} {XC : String → State → State → Prop} {mc ms : Nat} {free : Addr → Prop} {cc : ByteArray} {maxL : Nat} {ret : Option FieldType} {hh : List (Nat × Nat × Nat × Nat)}
    (hy : plainName y.cls = true) (hw : ws = Cond.codeWith y cc maxL ret hh :: ws')
    (body : ∀ p e s m args below meth c s₁, BodyLoose p l y (headSpec ws rm) cc maxL ret e s m args below meth c s₁ → c.maxLocals = maxL → Pc args s →
      W p l e (headSpec ws rm).room s m args below meth c s.heap [] 0 0 (vx_MQ below Qc XC args s mc ms free) (entryFrame m args maxL)) : vx_Met l y ws rm Pc Qc XC mc ms free := by
  refine MetFree.of_bodyS (code := cc) (maxLocals := maxL) (ret := ret) hy ?_ ?_
  · intro args s m h hn
    obtain ⟨m9, meth, c, hn9, h1, h2, h3, h4, -, h5, h6, -⟩ := Cond.codeWith_spec (atoms_spec (ws := ws) h _ (by rw [hw]; exact List.mem_cons_self))
    cases hn.symm.trans hn9
    exact ⟨meth, c, h1, h2, h3, h4, h5, h6⟩
  · intro p e s m args below meth c s₁ B hml hP _
    have hh0 : s₁.heap = s.heap := by rw [B.state]; rfl
    obtain ⟨t, a1, o, b1, b2, b3⟩ := body p e s m args below meth c s₁ B hml hP s₁ hh0 (Stand.of_body B)
    exact ⟨t, o, a1, b1, b2, b3⟩
/-! ===== END ===== -/
end
section
/-! ===== BEGIN printed: names, fields, word lists, decode rows ===== -/
def RX0 : String := "FiguredBass"
def TX0 : u_T := fun k => match k with
  | 0 => ("FiguredBass", "size", "I", false)
  | 1 => ("FiguredBass", "inMinor", "Z", false)
  | 2 => ("FiguredBass", "figures", "[I", true)
  | 3 => ("FiguredBass", "notes", "[I", true)
  | 4 => ("FiguredBass", "weights", "[I", true)
  | _ => ("FiguredBass", "wayList", "[I", true)
def tyX0 : Nat → FieldType := fun k => match k with
  | 0 => .int
  | 1 => .boolean
  | 2 => .array .int
  | 3 => .array .int
  | 4 => .array .int
  | _ => .array .int
abbrev wsX00 : List Cond := u_ws RX0 TX0 6
theorem nmX0 : ∀ a, a < 6 → ∀ b, b < 6 → a ≠ b → (TX0 a).2.1 ≠ (TX0 b).2.1 := by decide +kernel
theorem tyX0_ok : ∀ k, k < 6 → parseFieldDescriptor (TX0 k).2.2.1 = some (tyX0 k) := by decide +kernel
abbrev cX0_init : ByteArray := prog_1_method_1_code
def yX0_init : MethodName := ⟨RX0, "<init>", "()V"⟩
abbrev cX0_chord : ByteArray := prog_1_method_2_code
def yX0_chord : MethodName := ⟨RX0, "chord", "(II)I"⟩
abbrev cX0_setBass : ByteArray := prog_1_method_3_code
def yX0_setBass : MethodName := ⟨RX0, "setBass", "(II)I"⟩
abbrev cX0_setFigure : ByteArray := prog_1_method_4_code
def yX0_setFigure : MethodName := ⟨RX0, "setFigure", "(II)I"⟩
abbrev cX0_put : ByteArray := prog_1_method_5_code
def yX0_put : MethodName := ⟨RX0, "put", "(III)I"⟩
abbrev cX0_drop : ByteArray := prog_1_method_6_code
def yX0_drop : MethodName := ⟨RX0, "drop", "()I"⟩
abbrev cX0_setKey : ByteArray := prog_1_method_7_code
def yX0_setKey : MethodName := ⟨RX0, "setKey", "(Z)Z"⟩
abbrev cX0_setWeight : ByteArray := prog_1_method_8_code
def yX0_setWeight : MethodName := ⟨RX0, "setWeight", "(II)I"⟩
abbrev cX0_lead : ByteArray := prog_1_method_9_code
def yX0_lead : MethodName := ⟨RX0, "lead", "(I)I"⟩
abbrev cX0_leadAll : ByteArray := prog_1_method_10_code
def yX0_leadAll : MethodName := ⟨RX0, "leadAll", "()I"⟩
abbrev cX0_note : ByteArray := prog_1_method_11_code
def yX0_note : MethodName := ⟨RX0, "note", "(II)I"⟩
abbrev cX0_told : ByteArray := prog_1_method_12_code
def yX0_told : MethodName := ⟨RX0, "told", "(II)I"⟩
abbrev cX0_faults : ByteArray := prog_1_method_13_code
def yX0_faults : MethodName := ⟨RX0, "faults", "(II)I"⟩
abbrev cX0_count : ByteArray := prog_1_method_14_code
def yX0_count : MethodName := ⟨RX0, "count", "(I)I"⟩
abbrev cX0_pitch : ByteArray := prog_1_method_15_code
def yX0_pitch : MethodName := ⟨RX0, "pitch", "(I)I"⟩
abbrev cX0_fits : ByteArray := prog_1_method_16_code
def yX0_fits : MethodName := ⟨RX0, "fits", "(III)Z"⟩
abbrev cX0_ways : ByteArray := prog_1_method_17_code
def yX0_ways : MethodName := ⟨RX0, "ways", "(I)I"⟩
abbrev cX0_would : ByteArray := prog_1_method_18_code
def yX0_would : MethodName := ⟨RX0, "would", "(III)I"⟩
abbrev cX0_best : ByteArray := prog_1_method_19_code
def yX0_best : MethodName := ⟨RX0, "best", "(I)I"⟩
abbrev cX0_advise : ByteArray := prog_1_method_20_code
def yX0_advise : MethodName := ⟨RX0, "advise", "(I)I"⟩
abbrev cX0_mean : ByteArray := prog_1_method_21_code
def yX0_mean : MethodName := ⟨RX0, "mean", "()D"⟩
abbrev cX0_digest : ByteArray := prog_1_method_22_code
def yX0_digest : MethodName := ⟨RX0, "digest", "()J"⟩
abbrev cX0_isChord : ByteArray := prog_1_method_23_code
def yX0_isChord : MethodName := ⟨RX0, "isChord", "(I)Z"⟩
abbrev cX0_isUpperVoice : ByteArray := prog_1_method_24_code
def yX0_isUpperVoice : MethodName := ⟨RX0, "isUpperVoice", "(I)Z"⟩
abbrev cX0_isFigure : ByteArray := prog_1_method_25_code
def yX0_isFigure : MethodName := ⟨RX0, "isFigure", "(I)Z"⟩
abbrev cX0_isFault : ByteArray := prog_1_method_26_code
def yX0_isFault : MethodName := ⟨RX0, "isFault", "(I)Z"⟩
abbrev cX0_isNote : ByteArray := prog_1_method_27_code
def yX0_isNote : MethodName := ⟨RX0, "isNote", "(I)Z"⟩
abbrev cX0_isNoteOf : ByteArray := prog_1_method_28_code
def yX0_isNoteOf : MethodName := ⟨RX0, "isNoteOf", "(II)Z"⟩
abbrev cX0_noteAt : ByteArray := prog_1_method_29_code
def yX0_noteAt : MethodName := ⟨RX0, "noteAt", "(II)I"⟩
abbrev cX0_exchangeNote : ByteArray := prog_1_method_30_code
def yX0_exchangeNote : MethodName := ⟨RX0, "exchangeNote", "(III)I"⟩
abbrev cX0_putNotes : ByteArray := prog_1_method_31_code
def yX0_putNotes : MethodName := ⟨RX0, "putNotes", "(IIII)V"⟩
abbrev cX0_putWay : ByteArray := prog_1_method_32_code
def yX0_putWay : MethodName := ⟨RX0, "putWay", "(II)V"⟩
abbrev cX0_pitchOf : ByteArray := prog_1_method_33_code
def yX0_pitchOf : MethodName := ⟨RX0, "pitchOf", "(I)I"⟩
abbrev cX0_stepAbove : ByteArray := prog_1_method_34_code
def yX0_stepAbove : MethodName := ⟨RX0, "stepAbove", "(II)I"⟩
abbrev cX0_moves : ByteArray := prog_1_method_35_code
def yX0_moves : MethodName := ⟨RX0, "moves", "(II)Z"⟩
abbrev cX0_belongs : ByteArray := prog_1_method_36_code
def yX0_belongs : MethodName := ⟨RX0, "belongs", "(II)Z"⟩
abbrev cX0_isSet : ByteArray := prog_1_method_37_code
def yX0_isSet : MethodName := ⟨RX0, "isSet", "(I)Z"⟩
abbrev cX0_isRight : ByteArray := prog_1_method_38_code
def yX0_isRight : MethodName := ⟨RX0, "isRight", "(I)Z"⟩
abbrev cX0_isRightWith : ByteArray := prog_1_method_39_code
def yX0_isRightWith : MethodName := ⟨RX0, "isRightWith", "(IIII)Z"⟩
abbrev cX0_follows : ByteArray := prog_1_method_40_code
def yX0_follows : MethodName := ⟨RX0, "follows", "(I)Z"⟩
abbrev cX0_stepsGone : ByteArray := prog_1_method_41_code
def yX0_stepsGone : MethodName := ⟨RX0, "stepsGone", "(I)I"⟩
abbrev cX0_costOf : ByteArray := prog_1_method_42_code
def yX0_costOf : MethodName := ⟨RX0, "costOf", "(I)I"⟩
abbrev cX0_faultsOf : ByteArray := prog_1_method_43_code
def yX0_faultsOf : MethodName := ⟨RX0, "faultsOf", "(II)I"⟩
abbrev cX0_parallels : ByteArray := prog_1_method_44_code
def yX0_parallels : MethodName := ⟨RX0, "parallels", "(II)I"⟩
abbrev cX0_isInterval : ByteArray := prog_1_method_45_code
def yX0_isInterval : MethodName := ⟨RX0, "isInterval", "(IIII)Z"⟩
abbrev cX0_isHidden : ByteArray := prog_1_method_46_code
def yX0_isHidden : MethodName := ⟨RX0, "isHidden", "(I)Z"⟩
abbrev cX0_voicesAtFault : ByteArray := prog_1_method_47_code
def yX0_voicesAtFault : MethodName := ⟨RX0, "voicesAtFault", "(II)I"⟩
abbrev cX0_isAtFault : ByteArray := prog_1_method_48_code
def yX0_isAtFault : MethodName := ⟨RX0, "isAtFault", "(III)Z"⟩
abbrev cX0_allFaultsOf : ByteArray := prog_1_method_49_code
def yX0_allFaultsOf : MethodName := ⟨RX0, "allFaultsOf", "(I)I"⟩
abbrev cX0_listWays : ByteArray := prog_1_method_50_code
def yX0_listWays : MethodName := ⟨RX0, "listWays", "(I)I"⟩
abbrev cX0_listSopranos : ByteArray := prog_1_method_51_code
def yX0_listSopranos : MethodName := ⟨RX0, "listSopranos", "(IIII)I"⟩
abbrev cX0_bestWay : ByteArray := prog_1_method_52_code
def yX0_bestWay : MethodName := ⟨RX0, "bestWay", "(I)I"⟩
abbrev cX0_tellOf : ByteArray := prog_1_method_53_code
def yX0_tellOf : MethodName := ⟨RX0, "tellOf", "(II)I"⟩
abbrev cX0_countOf : ByteArray := prog_1_method_54_code
def yX0_countOf : MethodName := ⟨RX0, "countOf", "(I)I"⟩
def RX1 : String := "FiguredBassModel"
def TX1 : u_T := fun k => match k with
  | 0 => ("FiguredBassModel", "thrown", "I", false)
  | 1 => ("FiguredBassModel", "chords", "I", false)
  | 2 => ("FiguredBassModel", "notes", "[I", true)
  | 3 => ("FiguredBassModel", "figures", "[I", true)
  | 4 => ("FiguredBassModel", "weights", "[I", true)
  | _ => ("FiguredBassModel", "isMinor", "Z", false)
def tyX1 : Nat → FieldType := fun k => match k with
  | 0 => .int
  | 1 => .int
  | 2 => .array .int
  | 3 => .array .int
  | 4 => .array .int
  | _ => .boolean
abbrev wsX10 : List Cond := u_ws RX1 TX1 6
theorem nmX1 : ∀ a, a < 6 → ∀ b, b < 6 → a ≠ b → (TX1 a).2.1 ≠ (TX1 b).2.1 := by decide +kernel
theorem tyX1_ok : ∀ k, k < 6 → parseFieldDescriptor (TX1 k).2.2.1 = some (tyX1 k) := by decide +kernel
abbrev cX1_init : ByteArray := prog_3_method_1_code
def yX1_init : MethodName := ⟨RX1, "<init>", "()V"⟩
abbrev cX1_thrown : ByteArray := prog_3_method_2_code
def yX1_thrown : MethodName := ⟨RX1, "thrown", "()I"⟩
abbrev cX1_no : ByteArray := prog_3_method_3_code
def yX1_no : MethodName := ⟨RX1, "no", "(I)I"⟩
abbrev cX1_isIn : ByteArray := prog_3_method_4_code
def yX1_isIn : MethodName := ⟨RX1, "isIn", "(III)Z"⟩
abbrev cX1_isChord : ByteArray := prog_3_method_5_code
def yX1_isChord : MethodName := ⟨RX1, "isChord", "(I)Z"⟩
abbrev cX1_isOf : ByteArray := prog_3_method_6_code
def yX1_isOf : MethodName := ⟨RX1, "isOf", "(II)Z"⟩
abbrev cX1_at : ByteArray := prog_3_method_7_code
def yX1_at : MethodName := ⟨RX1, "at", "(II)I"⟩
abbrev cX1_pitchOf : ByteArray := prog_3_method_8_code
def yX1_pitchOf : MethodName := ⟨RX1, "pitchOf", "(I)I"⟩
abbrev cX1_step : ByteArray := prog_3_method_9_code
def yX1_step : MethodName := ⟨RX1, "step", "(II)I"⟩
abbrev cX1_isSet : ByteArray := prog_3_method_10_code
def yX1_isSet : MethodName := ⟨RX1, "isSet", "(I)Z"⟩
abbrev cX1_belongs : ByteArray := prog_3_method_11_code
def yX1_belongs : MethodName := ⟨RX1, "belongs", "(III)Z"⟩
abbrev cX1_isRight : ByteArray := prog_3_method_12_code
def yX1_isRight : MethodName := ⟨RX1, "isRight", "(I)Z"⟩
abbrev cX1_goes : ByteArray := prog_3_method_13_code
def yX1_goes : MethodName := ⟨RX1, "goes", "(II)I"⟩
abbrev cX1_isFifth : ByteArray := prog_3_method_14_code
def yX1_isFifth : MethodName := ⟨RX1, "isFifth", "(III)Z"⟩
abbrev cX1_isOctave : ByteArray := prog_3_method_15_code
def yX1_isOctave : MethodName := ⟨RX1, "isOctave", "(III)Z"⟩
abbrev cX1_isPair : ByteArray := prog_3_method_16_code
def yX1_isPair : MethodName := ⟨RX1, "isPair", "(I)Z"⟩
abbrev cX1_parallels : ByteArray := prog_3_method_17_code
def yX1_parallels : MethodName := ⟨RX1, "parallels", "(IZ)I"⟩
abbrev cX1_isHidden : ByteArray := prog_3_method_18_code
def yX1_isHidden : MethodName := ⟨RX1, "isHidden", "(I)Z"⟩
abbrev cX1_isFault : ByteArray := prog_3_method_19_code
def yX1_isFault : MethodName := ⟨RX1, "isFault", "(III)Z"⟩
abbrev cX1_faultsOf : ByteArray := prog_3_method_20_code
def yX1_faultsOf : MethodName := ⟨RX1, "faultsOf", "(II)I"⟩
abbrev cX1_steps : ByteArray := prog_3_method_21_code
def yX1_steps : MethodName := ⟨RX1, "steps", "(I)I"⟩
abbrev cX1_cost : ByteArray := prog_3_method_22_code
def yX1_cost : MethodName := ⟨RX1, "cost", "(I)I"⟩
abbrev cX1_let : ByteArray := prog_3_method_23_code
def yX1_let : MethodName := ⟨RX1, "let", "(IIII)V"⟩
abbrev cX1_led : ByteArray := prog_3_method_24_code
def yX1_led : MethodName := ⟨RX1, "led", "(I)[I"⟩
abbrev cX1_isLed : ByteArray := prog_3_method_25_code
def yX1_isLed : MethodName := ⟨RX1, "isLed", "(I)Z"⟩
abbrev cX1_chord : ByteArray := prog_3_method_26_code
def yX1_chord : MethodName := ⟨RX1, "chord", "(II)I"⟩
abbrev cX1_setBass : ByteArray := prog_3_method_27_code
def yX1_setBass : MethodName := ⟨RX1, "setBass", "(II)I"⟩
abbrev cX1_setFigure : ByteArray := prog_3_method_28_code
def yX1_setFigure : MethodName := ⟨RX1, "setFigure", "(II)I"⟩
abbrev cX1_put : ByteArray := prog_3_method_29_code
def yX1_put : MethodName := ⟨RX1, "put", "(III)I"⟩
abbrev cX1_drop : ByteArray := prog_3_method_30_code
def yX1_drop : MethodName := ⟨RX1, "drop", "()I"⟩
abbrev cX1_setKey : ByteArray := prog_3_method_31_code
def yX1_setKey : MethodName := ⟨RX1, "setKey", "(Z)Z"⟩
abbrev cX1_setWeight : ByteArray := prog_3_method_32_code
def yX1_setWeight : MethodName := ⟨RX1, "setWeight", "(II)I"⟩
abbrev cX1_lead : ByteArray := prog_3_method_33_code
def yX1_lead : MethodName := ⟨RX1, "lead", "(I)I"⟩
abbrev cX1_leadAll : ByteArray := prog_3_method_34_code
def yX1_leadAll : MethodName := ⟨RX1, "leadAll", "()I"⟩
abbrev cX1_note : ByteArray := prog_3_method_35_code
def yX1_note : MethodName := ⟨RX1, "note", "(II)I"⟩
abbrev cX1_chordTold : ByteArray := prog_3_method_36_code
def yX1_chordTold : MethodName := ⟨RX1, "chordTold", "(II)I"⟩
abbrev cX1_told : ByteArray := prog_3_method_37_code
def yX1_told : MethodName := ⟨RX1, "told", "(II)I"⟩
abbrev cX1_faults : ByteArray := prog_3_method_38_code
def yX1_faults : MethodName := ⟨RX1, "faults", "(II)I"⟩
abbrev cX1_all : ByteArray := prog_3_method_39_code
def yX1_all : MethodName := ⟨RX1, "all", "(I)I"⟩
abbrev cX1_allFaults : ByteArray := prog_3_method_40_code
def yX1_allFaults : MethodName := ⟨RX1, "allFaults", "()I"⟩
abbrev cX1_counted : ByteArray := prog_3_method_41_code
def yX1_counted : MethodName := ⟨RX1, "counted", "(I)I"⟩
abbrev cX1_count : ByteArray := prog_3_method_42_code
def yX1_count : MethodName := ⟨RX1, "count", "(I)I"⟩
abbrev cX1_pitch : ByteArray := prog_3_method_43_code
def yX1_pitch : MethodName := ⟨RX1, "pitch", "(I)I"⟩
abbrev cX1_fits : ByteArray := prog_3_method_44_code
def yX1_fits : MethodName := ⟨RX1, "fits", "(III)Z"⟩
abbrev cX1_ways : ByteArray := prog_3_method_45_code
def yX1_ways : MethodName := ⟨RX1, "ways", "(I)I"⟩
abbrev cX1_would : ByteArray := prog_3_method_46_code
def yX1_would : MethodName := ⟨RX1, "would", "(III)I"⟩
abbrev cX1_best : ByteArray := prog_3_method_47_code
def yX1_best : MethodName := ⟨RX1, "best", "(I)I"⟩
abbrev cX1_advise : ByteArray := prog_3_method_48_code
def yX1_advise : MethodName := ⟨RX1, "advise", "(I)I"⟩
abbrev cX1_mean : ByteArray := prog_3_method_49_code
def yX1_mean : MethodName := ⟨RX1, "mean", "()D"⟩
abbrev cX1_digest : ByteArray := prog_3_method_50_code
def yX1_digest : MethodName := ⟨RX1, "digest", "()J"⟩
def RJ9 : String := "java/lang/Math"
def TJ9 : u_T := fun k => match k with
  | _ => ("", "", "", false)
def tyJ9 : Nat → FieldType := fun k => match k with
  | _ => .int
abbrev wsJ90 : List Cond := u_ws RJ9 TJ9 0
theorem nmJ9 : ∀ a, a < 0 → ∀ b, b < 0 → a ≠ b → (TJ9 a).2.1 ≠ (TJ9 b).2.1 := by decide +kernel
theorem tyJ9_ok : ∀ k, k < 0 → parseFieldDescriptor (TJ9 k).2.2.1 = some (tyJ9 k) := by decide +kernel
abbrev cJ9_abs_0f7a4 : ByteArray := prog_8_method_59_code
def yJ9_abs_0f7a4 : MethodName := ⟨RJ9, "abs", "(I)I"⟩
abbrev cJ9_max_7cf53 : ByteArray := prog_8_method_65_code
def yJ9_max_7cf53 : MethodName := ⟨RJ9, "max", "(II)I"⟩
def RJ0 : String := "java/lang/String"
def TJ0 : u_T := fun k => match k with
  | _ => ("", "", "", false)
def tyJ0 : Nat → FieldType := fun k => match k with
  | _ => .int
abbrev wsJ00 : List Cond := u_ws RJ0 TJ0 0
theorem nmJ0 : ∀ a, a < 0 → ∀ b, b < 0 → a ≠ b → (TJ0 a).2.1 ≠ (TJ0 b).2.1 := by decide +kernel
theorem tyJ0_ok : ∀ k, k < 0 → parseFieldDescriptor (TJ0 k).2.2.1 = some (tyJ0 k) := by decide +kernel
def RL : String := "FiguredBassLaw"
abbrev cL_chord : ByteArray := method_3_code
def yL_chord : MethodName := ⟨RL, "chord", "(LFiguredBass;II[J)I"⟩
abbrev cL_setBass : ByteArray := method_4_code
def yL_setBass : MethodName := ⟨RL, "setBass", "(LFiguredBass;II[J)I"⟩
abbrev cL_setFigure : ByteArray := method_5_code
def yL_setFigure : MethodName := ⟨RL, "setFigure", "(LFiguredBass;II[J)I"⟩
abbrev cL_put : ByteArray := method_6_code
def yL_put : MethodName := ⟨RL, "put", "(LFiguredBass;III[J)I"⟩
abbrev cL_drop : ByteArray := method_7_code
def yL_drop : MethodName := ⟨RL, "drop", "(LFiguredBass;[J)I"⟩
abbrev cL_setWeight : ByteArray := method_8_code
def yL_setWeight : MethodName := ⟨RL, "setWeight", "(LFiguredBass;II[J)I"⟩
abbrev cL_lead : ByteArray := method_9_code
def yL_lead : MethodName := ⟨RL, "lead", "(LFiguredBass;I[J)I"⟩
abbrev cL_note : ByteArray := method_10_code
def yL_note : MethodName := ⟨RL, "note", "(LFiguredBass;II[J)I"⟩
abbrev cL_told : ByteArray := method_11_code
def yL_told : MethodName := ⟨RL, "told", "(LFiguredBass;II[J)I"⟩
abbrev cL_faults : ByteArray := method_12_code
def yL_faults : MethodName := ⟨RL, "faults", "(LFiguredBass;II[J)I"⟩
abbrev cL_count : ByteArray := method_13_code
def yL_count : MethodName := ⟨RL, "count", "(LFiguredBass;I[J)I"⟩
abbrev cL_pitch : ByteArray := method_14_code
def yL_pitch : MethodName := ⟨RL, "pitch", "(LFiguredBass;I[J)I"⟩
abbrev cL_fits : ByteArray := method_15_code
def yL_fits : MethodName := ⟨RL, "fits", "(LFiguredBass;III[J)I"⟩
abbrev cL_ways : ByteArray := method_16_code
def yL_ways : MethodName := ⟨RL, "ways", "(LFiguredBass;I[J)I"⟩
abbrev cL_would : ByteArray := method_17_code
def yL_would : MethodName := ⟨RL, "would", "(LFiguredBass;III[J)I"⟩
abbrev cL_best : ByteArray := method_18_code
def yL_best : MethodName := ⟨RL, "best", "(LFiguredBass;I[J)I"⟩
abbrev cL_advise : ByteArray := method_19_code
def yL_advise : MethodName := ⟨RL, "advise", "(LFiguredBass;I[J)I"⟩
abbrev cL_law : ByteArray := code
def yL_law : MethodName := ⟨RL, "law", "([I)Z"⟩
def wsX0_init : List Cond := .code yX0_init cX0_init 2 none :: ([.methodLink RX0 1 objectInit, .instanceMethod objectInit, .code objectInit ⟨#[0xb1]⟩ 1 none, .fieldLink RX0 7 "FiguredBass" "size" "I", .fieldLink RX0 13 "FiguredBass" "inMinor" "Z", .arrayClass .int, .fieldLink RX0 17 "FiguredBass" "figures" "[I", .fieldLink RX0 21 "FiguredBass" "notes" "[I", .fieldLink RX0 24 "FiguredBass" "weights" "[I", .fieldLink RX0 27 "FiguredBass" "wayList" "[I"] ++ wsX00)
def wsX0_isNoteOf : List Cond := .code yX0_isNoteOf cX0_isNoteOf 2 (some .boolean) :: ([.fieldLink RX0 139 "FiguredBass" "LOWEST" "[I", .fieldLink RX0 142 "FiguredBass" "HIGHEST" "[I"])
def wsX0_isFigure : List Cond := .code yX0_isFigure cX0_isFigure 1 (some .boolean) :: ([.fieldLink RX0 132 "FiguredBass" "FIGURE_STEPS" "[I"])
def wsX0_putNotes : List Cond := .code yX0_putNotes cX0_putNotes 5 none :: ([.fieldLink RX0 21 "FiguredBass" "notes" "[I"] ++ wsX00)
def wsX0_chord : List Cond := .code yX0_chord cX0_chord 4 (some .int) :: ([.classLink RX0 34 "java/lang/IllegalArgumentException", .initialized "java/lang/IllegalArgumentException", .classLink RX0 47 "java/lang/IllegalStateException", .initialized "java/lang/IllegalStateException", .fieldLink RX0 7 "FiguredBass" "size" "I", .fieldLink RX0 17 "FiguredBass" "figures" "[I", .fieldLink RX0 21 "FiguredBass" "notes" "[I", .methodLink RX0 30 yX0_isNoteOf, .static yX0_isNoteOf, .initialized RX0, .code yX0_isNoteOf cX0_isNoteOf 2 (some .boolean), .fieldLink RX0 139 "FiguredBass" "LOWEST" "[I", .fieldLink RX0 142 "FiguredBass" "HIGHEST" "[I", .methodLink RX0 41 yX0_isFigure, .static yX0_isFigure, .code yX0_isFigure cX0_isFigure 1 (some .boolean), .fieldLink RX0 132 "FiguredBass" "FIGURE_STEPS" "[I", .methodLink RX0 52 yX0_putNotes, .instanceMethod yX0_putNotes, .selects RX0 yX0_putNotes yX0_putNotes, .code yX0_putNotes cX0_putNotes 5 none] ++ wsX00 ++ (vx_atS RX0 38 "java/lang/IllegalArgumentException" ["java/lang/RuntimeException", "java/lang/Exception"]).filter goodWord ++ (vx_atS RX0 51 "java/lang/IllegalStateException" ["java/lang/RuntimeException", "java/lang/Exception"]).filter goodWord)
def wsX0_isChord : List Cond := .code yX0_isChord cX0_isChord 2 (some .boolean) :: ([.fieldLink RX0 7 "FiguredBass" "size" "I"] ++ wsX00)
def wsX0_exchangeNote : List Cond := .code yX0_exchangeNote cX0_exchangeNote 5 (some .int) :: ([.fieldLink RX0 21 "FiguredBass" "notes" "[I"] ++ wsX00)
def wsX0_setBass : List Cond := .code yX0_setBass cX0_setBass 3 (some .int) :: ([.classLink RX0 59 "java/lang/IndexOutOfBoundsException", .initialized "java/lang/IndexOutOfBoundsException", .classLink RX0 34 "java/lang/IllegalArgumentException", .initialized "java/lang/IllegalArgumentException", .methodLink RX0 56 yX0_isChord, .instanceMethod yX0_isChord, .selects RX0 yX0_isChord yX0_isChord, .initialized RX0, .code yX0_isChord cX0_isChord 2 (some .boolean), .fieldLink RX0 7 "FiguredBass" "size" "I", .methodLink RX0 30 yX0_isNoteOf, .static yX0_isNoteOf, .code yX0_isNoteOf cX0_isNoteOf 2 (some .boolean), .fieldLink RX0 139 "FiguredBass" "LOWEST" "[I", .fieldLink RX0 142 "FiguredBass" "HIGHEST" "[I", .methodLink RX0 64 yX0_exchangeNote, .instanceMethod yX0_exchangeNote, .selects RX0 yX0_exchangeNote yX0_exchangeNote, .code yX0_exchangeNote cX0_exchangeNote 5 (some .int), .fieldLink RX0 21 "FiguredBass" "notes" "[I"] ++ wsX00 ++ (vx_atS RX0 63 "java/lang/IndexOutOfBoundsException" ["java/lang/RuntimeException", "java/lang/Exception"]).filter goodWord ++ (vx_atS RX0 38 "java/lang/IllegalArgumentException" ["java/lang/RuntimeException", "java/lang/Exception"]).filter goodWord)
def wsX0_setFigure : List Cond := .code yX0_setFigure cX0_setFigure 4 (some .int) :: ([.classLink RX0 59 "java/lang/IndexOutOfBoundsException", .initialized "java/lang/IndexOutOfBoundsException", .classLink RX0 34 "java/lang/IllegalArgumentException", .initialized "java/lang/IllegalArgumentException", .fieldLink RX0 17 "FiguredBass" "figures" "[I", .methodLink RX0 56 yX0_isChord, .instanceMethod yX0_isChord, .selects RX0 yX0_isChord yX0_isChord, .initialized RX0, .code yX0_isChord cX0_isChord 2 (some .boolean), .fieldLink RX0 7 "FiguredBass" "size" "I", .methodLink RX0 41 yX0_isFigure, .static yX0_isFigure, .code yX0_isFigure cX0_isFigure 1 (some .boolean), .fieldLink RX0 132 "FiguredBass" "FIGURE_STEPS" "[I"] ++ wsX00 ++ (vx_atS RX0 63 "java/lang/IndexOutOfBoundsException" ["java/lang/RuntimeException", "java/lang/Exception"]).filter goodWord ++ (vx_atS RX0 38 "java/lang/IllegalArgumentException" ["java/lang/RuntimeException", "java/lang/Exception"]).filter goodWord)
def wsX0_isUpperVoice : List Cond := .code yX0_isUpperVoice cX0_isUpperVoice 1 (some .boolean) :: ([])
def wsX0_put : List Cond := .code yX0_put cX0_put 4 (some .int) :: ([.classLink RX0 59 "java/lang/IndexOutOfBoundsException", .initialized "java/lang/IndexOutOfBoundsException", .classLink RX0 34 "java/lang/IllegalArgumentException", .initialized "java/lang/IllegalArgumentException", .methodLink RX0 56 yX0_isChord, .instanceMethod yX0_isChord, .selects RX0 yX0_isChord yX0_isChord, .initialized RX0, .code yX0_isChord cX0_isChord 2 (some .boolean), .fieldLink RX0 7 "FiguredBass" "size" "I", .methodLink RX0 68 yX0_isUpperVoice, .static yX0_isUpperVoice, .code yX0_isUpperVoice cX0_isUpperVoice 1 (some .boolean), .methodLink RX0 30 yX0_isNoteOf, .static yX0_isNoteOf, .code yX0_isNoteOf cX0_isNoteOf 2 (some .boolean), .fieldLink RX0 139 "FiguredBass" "LOWEST" "[I", .fieldLink RX0 142 "FiguredBass" "HIGHEST" "[I", .methodLink RX0 64 yX0_exchangeNote, .instanceMethod yX0_exchangeNote, .selects RX0 yX0_exchangeNote yX0_exchangeNote, .code yX0_exchangeNote cX0_exchangeNote 5 (some .int), .fieldLink RX0 21 "FiguredBass" "notes" "[I"] ++ wsX00 ++ (vx_atS RX0 63 "java/lang/IndexOutOfBoundsException" ["java/lang/RuntimeException", "java/lang/Exception"]).filter goodWord ++ (vx_atS RX0 38 "java/lang/IllegalArgumentException" ["java/lang/RuntimeException", "java/lang/Exception"]).filter goodWord)
def wsX0_drop : List Cond := .code yX0_drop cX0_drop 1 (some .int) :: ([.classLink RX0 47 "java/lang/IllegalStateException", .initialized "java/lang/IllegalStateException", .fieldLink RX0 7 "FiguredBass" "size" "I"] ++ wsX00 ++ (vx_atS RX0 51 "java/lang/IllegalStateException" ["java/lang/RuntimeException", "java/lang/Exception"]).filter goodWord)
def wsX0_setKey : List Cond := .code yX0_setKey cX0_setKey 3 (some .boolean) :: ([.fieldLink RX0 13 "FiguredBass" "inMinor" "Z"] ++ wsX00)
def wsX0_isFault : List Cond := .code yX0_isFault cX0_isFault 1 (some .boolean) :: ([])
def wsX0_setWeight : List Cond := .code yX0_setWeight cX0_setWeight 4 (some .int) :: ([.classLink RX0 59 "java/lang/IndexOutOfBoundsException", .initialized "java/lang/IndexOutOfBoundsException", .classLink RX0 34 "java/lang/IllegalArgumentException", .initialized "java/lang/IllegalArgumentException", .fieldLink RX0 24 "FiguredBass" "weights" "[I", .methodLink RX0 77 yX0_isFault, .static yX0_isFault, .initialized RX0, .code yX0_isFault cX0_isFault 1 (some .boolean)] ++ wsX00 ++ (vx_atS RX0 63 "java/lang/IndexOutOfBoundsException" ["java/lang/RuntimeException", "java/lang/Exception"]).filter goodWord ++ (vx_atS RX0 38 "java/lang/IllegalArgumentException" ["java/lang/RuntimeException", "java/lang/Exception"]).filter goodWord)
def wsX0_noteAt : List Cond := .code yX0_noteAt cX0_noteAt 3 (some .int) :: ([.fieldLink RX0 21 "FiguredBass" "notes" "[I"] ++ wsX00)
def wsX0_stepAbove : List Cond := .code yX0_stepAbove cX0_stepAbove 3 (some .int) :: ([])
def wsX0_belongs : List Cond := .code yX0_belongs cX0_belongs 4 (some .boolean) :: ([.fieldLink RX0 132 "FiguredBass" "FIGURE_STEPS" "[I", .fieldLink RX0 17 "FiguredBass" "figures" "[I", .methodLink RX0 99 yX0_noteAt, .instanceMethod yX0_noteAt, .selects RX0 yX0_noteAt yX0_noteAt, .initialized RX0, .code yX0_noteAt cX0_noteAt 3 (some .int), .fieldLink RX0 21 "FiguredBass" "notes" "[I", .methodLink RX0 151 yX0_stepAbove, .static yX0_stepAbove, .code yX0_stepAbove cX0_stepAbove 3 (some .int)] ++ wsX00)
def wsX0_isRightWith : List Cond := .code yX0_isRightWith cX0_isRightWith 7 (some .boolean) :: ([.fieldLink RX0 132 "FiguredBass" "FIGURE_STEPS" "[I", .fieldLink RX0 17 "FiguredBass" "figures" "[I", .methodLink RX0 99 yX0_noteAt, .instanceMethod yX0_noteAt, .selects RX0 yX0_noteAt yX0_noteAt, .initialized RX0, .code yX0_noteAt cX0_noteAt 3 (some .int), .fieldLink RX0 21 "FiguredBass" "notes" "[I", .methodLink RX0 151 yX0_stepAbove, .static yX0_stepAbove, .code yX0_stepAbove cX0_stepAbove 3 (some .int)] ++ wsX00)
def wsX0_listSopranos : List Cond := .code yX0_listSopranos cX0_listSopranos 7 (some .int) :: ([.fieldLink RX0 139 "FiguredBass" "LOWEST" "[I", .methodLink RX0 194 Lib.Math.max.name, .static Lib.Math.max.name, .initialized "java/lang/Math", .code Lib.Math.max.name Lib.Math.max.code 2 (some .int), .fieldLink RX0 142 "FiguredBass" "HIGHEST" "[I", .fieldLink RX0 27 "FiguredBass" "wayList" "[I", .methodLink RX0 157 yX0_isRightWith, .instanceMethod yX0_isRightWith, .selects RX0 yX0_isRightWith yX0_isRightWith, .initialized RX0, .code yX0_isRightWith cX0_isRightWith 7 (some .boolean), .fieldLink RX0 132 "FiguredBass" "FIGURE_STEPS" "[I", .fieldLink RX0 17 "FiguredBass" "figures" "[I", .methodLink RX0 99 yX0_noteAt, .instanceMethod yX0_noteAt, .selects RX0 yX0_noteAt yX0_noteAt, .code yX0_noteAt cX0_noteAt 3 (some .int), .fieldLink RX0 21 "FiguredBass" "notes" "[I", .methodLink RX0 151 yX0_stepAbove, .static yX0_stepAbove, .code yX0_stepAbove cX0_stepAbove 3 (some .int)] ++ wsX00)
def wsX0_listWays_r1 : List Cond := [Cond.fieldLink RX0 139 "FiguredBass" "LOWEST" "[I", Cond.fieldLink RX0 142 "FiguredBass" "HIGHEST" "[I", Cond.methodLink RX0 194 Lib.Math.max.name, Cond.static Lib.Math.max.name, Cond.initialized "java/lang/Math", Cond.code Lib.Math.max.name Lib.Math.max.code 2 (some .int), Cond.methodLink RX0 126 yX0_belongs, Cond.instanceMethod yX0_belongs, Cond.selects RX0 yX0_belongs yX0_belongs, Cond.initialized RX0, Cond.code yX0_belongs cX0_belongs 4 (some .boolean), Cond.fieldLink RX0 132 "FiguredBass" "FIGURE_STEPS" "[I", Cond.fieldLink RX0 17 "FiguredBass" "figures" "[I", Cond.methodLink RX0 99 yX0_noteAt, Cond.instanceMethod yX0_noteAt, Cond.selects RX0 yX0_noteAt yX0_noteAt, Cond.code yX0_noteAt cX0_noteAt 3 (some .int), Cond.fieldLink RX0 21 "FiguredBass" "notes" "[I", Cond.methodLink RX0 151 yX0_stepAbove, Cond.static yX0_stepAbove, Cond.code yX0_stepAbove cX0_stepAbove 3 (some .int), Cond.methodLink RX0 197 yX0_listSopranos, Cond.instanceMethod yX0_listSopranos, Cond.selects RX0 yX0_listSopranos yX0_listSopranos]
def wsX0_listWays_r2 : List Cond := [Cond.code yX0_listSopranos cX0_listSopranos 7 (some .int), Cond.fieldLink RX0 27 "FiguredBass" "wayList" "[I", Cond.methodLink RX0 157 yX0_isRightWith, Cond.instanceMethod yX0_isRightWith, Cond.selects RX0 yX0_isRightWith yX0_isRightWith, Cond.code yX0_isRightWith cX0_isRightWith 7 (some .boolean)]
def wsX0_listWays : List Cond := .code yX0_listWays cX0_listWays 5 (some .int) :: ((wsX0_listWays_r1 ++ wsX0_listWays_r2) ++ wsX00)
def wsX0_putWay : List Cond := .code yX0_putWay cX0_putWay 3 none :: ([.methodLink RX0 52 yX0_putNotes, .instanceMethod yX0_putNotes, .selects RX0 yX0_putNotes yX0_putNotes, .initialized RX0, .code yX0_putNotes cX0_putNotes 5 none, .fieldLink RX0 21 "FiguredBass" "notes" "[I"] ++ wsX00)
def wsX0_isSet : List Cond := .code yX0_isSet cX0_isSet 2 (some .boolean) :: ([.methodLink RX0 56 yX0_isChord, .instanceMethod yX0_isChord, .selects RX0 yX0_isChord yX0_isChord, .initialized RX0, .code yX0_isChord cX0_isChord 2 (some .boolean), .fieldLink RX0 7 "FiguredBass" "size" "I", .methodLink RX0 99 yX0_noteAt, .instanceMethod yX0_noteAt, .selects RX0 yX0_noteAt yX0_noteAt, .code yX0_noteAt cX0_noteAt 3 (some .int), .fieldLink RX0 21 "FiguredBass" "notes" "[I"] ++ wsX00)
def wsX0_isRight : List Cond := .code yX0_isRight cX0_isRight 2 (some .boolean) :: ([.methodLink RX0 154 yX0_isSet, .instanceMethod yX0_isSet, .selects RX0 yX0_isSet yX0_isSet, .initialized RX0, .code yX0_isSet cX0_isSet 2 (some .boolean), .methodLink RX0 56 yX0_isChord, .instanceMethod yX0_isChord, .selects RX0 yX0_isChord yX0_isChord, .code yX0_isChord cX0_isChord 2 (some .boolean), .fieldLink RX0 7 "FiguredBass" "size" "I", .methodLink RX0 99 yX0_noteAt, .instanceMethod yX0_noteAt, .selects RX0 yX0_noteAt yX0_noteAt, .code yX0_noteAt cX0_noteAt 3 (some .int), .fieldLink RX0 21 "FiguredBass" "notes" "[I", .methodLink RX0 157 yX0_isRightWith, .instanceMethod yX0_isRightWith, .selects RX0 yX0_isRightWith yX0_isRightWith, .code yX0_isRightWith cX0_isRightWith 7 (some .boolean), .fieldLink RX0 132 "FiguredBass" "FIGURE_STEPS" "[I", .fieldLink RX0 17 "FiguredBass" "figures" "[I", .methodLink RX0 151 yX0_stepAbove, .static yX0_stepAbove, .code yX0_stepAbove cX0_stepAbove 3 (some .int)] ++ wsX00)
def wsX0_follows : List Cond := .code yX0_follows cX0_follows 2 (some .boolean) :: ([.methodLink RX0 154 yX0_isSet, .instanceMethod yX0_isSet, .selects RX0 yX0_isSet yX0_isSet, .initialized RX0, .code yX0_isSet cX0_isSet 2 (some .boolean), .methodLink RX0 56 yX0_isChord, .instanceMethod yX0_isChord, .selects RX0 yX0_isChord yX0_isChord, .code yX0_isChord cX0_isChord 2 (some .boolean), .fieldLink RX0 7 "FiguredBass" "size" "I", .methodLink RX0 99 yX0_noteAt, .instanceMethod yX0_noteAt, .selects RX0 yX0_noteAt yX0_noteAt, .code yX0_noteAt cX0_noteAt 3 (some .int), .fieldLink RX0 21 "FiguredBass" "notes" "[I"] ++ wsX00)
def wsX0_stepsGone : List Cond := .code yX0_stepsGone cX0_stepsGone 4 (some .int) :: ([.methodLink RX0 164 Lib.Math.abs.name, .static Lib.Math.abs.name, .initialized "java/lang/Math", .code Lib.Math.abs.name Lib.Math.abs.code 1 (some .int), .methodLink RX0 161 yX0_follows, .instanceMethod yX0_follows, .selects RX0 yX0_follows yX0_follows, .initialized RX0, .code yX0_follows cX0_follows 2 (some .boolean), .methodLink RX0 154 yX0_isSet, .instanceMethod yX0_isSet, .selects RX0 yX0_isSet yX0_isSet, .code yX0_isSet cX0_isSet 2 (some .boolean), .methodLink RX0 56 yX0_isChord, .instanceMethod yX0_isChord, .selects RX0 yX0_isChord yX0_isChord, .code yX0_isChord cX0_isChord 2 (some .boolean), .fieldLink RX0 7 "FiguredBass" "size" "I", .methodLink RX0 99 yX0_noteAt, .instanceMethod yX0_noteAt, .selects RX0 yX0_noteAt yX0_noteAt, .code yX0_noteAt cX0_noteAt 3 (some .int), .fieldLink RX0 21 "FiguredBass" "notes" "[I"] ++ wsX00)
def wsX0_moves : List Cond := .code yX0_moves cX0_moves 3 (some .boolean) :: ([.methodLink RX0 99 yX0_noteAt, .instanceMethod yX0_noteAt, .selects RX0 yX0_noteAt yX0_noteAt, .initialized RX0, .code yX0_noteAt cX0_noteAt 3 (some .int), .fieldLink RX0 21 "FiguredBass" "notes" "[I"] ++ wsX00)
def wsX0_pitchOf : List Cond := .code yX0_pitchOf cX0_pitchOf 3 (some .int) :: ([.fieldLink RX0 13 "FiguredBass" "inMinor" "Z", .fieldLink RX0 145 "FiguredBass" "MINOR" "[I", .fieldLink RX0 148 "FiguredBass" "MAJOR" "[I"] ++ wsX00)
def wsX0_isInterval : List Cond := .code yX0_isInterval cX0_isInterval 6 (some .boolean) :: ([.methodLink RX0 99 yX0_noteAt, .instanceMethod yX0_noteAt, .selects RX0 yX0_noteAt yX0_noteAt, .initialized RX0, .code yX0_noteAt cX0_noteAt 3 (some .int), .fieldLink RX0 21 "FiguredBass" "notes" "[I", .methodLink RX0 123 yX0_pitchOf, .instanceMethod yX0_pitchOf, .selects RX0 yX0_pitchOf yX0_pitchOf, .code yX0_pitchOf cX0_pitchOf 3 (some .int), .fieldLink RX0 13 "FiguredBass" "inMinor" "Z", .fieldLink RX0 145 "FiguredBass" "MINOR" "[I", .fieldLink RX0 148 "FiguredBass" "MAJOR" "[I"] ++ wsX00)
def wsX0_parallels : List Cond := .code yX0_parallels cX0_parallels 6 (some .int) :: ([.methodLink RX0 184 yX0_moves, .instanceMethod yX0_moves, .selects RX0 yX0_moves yX0_moves, .initialized RX0, .code yX0_moves cX0_moves 3 (some .boolean), .methodLink RX0 99 yX0_noteAt, .instanceMethod yX0_noteAt, .selects RX0 yX0_noteAt yX0_noteAt, .code yX0_noteAt cX0_noteAt 3 (some .int), .fieldLink RX0 21 "FiguredBass" "notes" "[I", .methodLink RX0 187 yX0_isInterval, .instanceMethod yX0_isInterval, .selects RX0 yX0_isInterval yX0_isInterval, .code yX0_isInterval cX0_isInterval 6 (some .boolean), .methodLink RX0 123 yX0_pitchOf, .instanceMethod yX0_pitchOf, .selects RX0 yX0_pitchOf yX0_pitchOf, .code yX0_pitchOf cX0_pitchOf 3 (some .int), .fieldLink RX0 13 "FiguredBass" "inMinor" "Z", .fieldLink RX0 145 "FiguredBass" "MINOR" "[I", .fieldLink RX0 148 "FiguredBass" "MAJOR" "[I"] ++ wsX00)
def wsX0_isHidden : List Cond := .code yX0_isHidden cX0_isHidden 6 (some .boolean) :: ([.methodLink RX0 99 yX0_noteAt, .instanceMethod yX0_noteAt, .selects RX0 yX0_noteAt yX0_noteAt, .initialized RX0, .code yX0_noteAt cX0_noteAt 3 (some .int), .fieldLink RX0 21 "FiguredBass" "notes" "[I", .methodLink RX0 187 yX0_isInterval, .instanceMethod yX0_isInterval, .selects RX0 yX0_isInterval yX0_isInterval, .code yX0_isInterval cX0_isInterval 6 (some .boolean), .methodLink RX0 123 yX0_pitchOf, .instanceMethod yX0_pitchOf, .selects RX0 yX0_pitchOf yX0_pitchOf, .code yX0_pitchOf cX0_pitchOf 3 (some .int), .fieldLink RX0 13 "FiguredBass" "inMinor" "Z", .fieldLink RX0 145 "FiguredBass" "MINOR" "[I", .fieldLink RX0 148 "FiguredBass" "MAJOR" "[I"] ++ wsX00)
def wsX0_isAtFault : List Cond := .code yX0_isAtFault cX0_isAtFault 8 (some .boolean) :: ([.fieldLink RX0 17 "FiguredBass" "figures" "[I", .methodLink RX0 99 yX0_noteAt, .instanceMethod yX0_noteAt, .selects RX0 yX0_noteAt yX0_noteAt, .initialized RX0, .code yX0_noteAt cX0_noteAt 3 (some .int), .fieldLink RX0 21 "FiguredBass" "notes" "[I", .methodLink RX0 151 yX0_stepAbove, .static yX0_stepAbove, .code yX0_stepAbove cX0_stepAbove 3 (some .int)] ++ wsX00)
def wsX0_voicesAtFault : List Cond := .code yX0_voicesAtFault cX0_voicesAtFault 5 (some .int) :: ([.methodLink RX0 190 yX0_isAtFault, .instanceMethod yX0_isAtFault, .selects RX0 yX0_isAtFault yX0_isAtFault, .initialized RX0, .code yX0_isAtFault cX0_isAtFault 8 (some .boolean), .fieldLink RX0 17 "FiguredBass" "figures" "[I", .methodLink RX0 99 yX0_noteAt, .instanceMethod yX0_noteAt, .selects RX0 yX0_noteAt yX0_noteAt, .code yX0_noteAt cX0_noteAt 3 (some .int), .fieldLink RX0 21 "FiguredBass" "notes" "[I", .methodLink RX0 151 yX0_stepAbove, .static yX0_stepAbove, .code yX0_stepAbove cX0_stepAbove 3 (some .int)] ++ wsX00)
def wsX0_faultsOf_r1 : List Cond := [Cond.methodLink RX0 161 yX0_follows, Cond.instanceMethod yX0_follows, Cond.selects RX0 yX0_follows yX0_follows, Cond.initialized RX0, Cond.code yX0_follows cX0_follows 2 (some .boolean), Cond.methodLink RX0 154 yX0_isSet, Cond.instanceMethod yX0_isSet, Cond.selects RX0 yX0_isSet yX0_isSet, Cond.code yX0_isSet cX0_isSet 2 (some .boolean), Cond.methodLink RX0 56 yX0_isChord, Cond.instanceMethod yX0_isChord, Cond.selects RX0 yX0_isChord yX0_isChord, Cond.code yX0_isChord cX0_isChord 2 (some .boolean), Cond.fieldLink RX0 7 "FiguredBass" "size" "I", Cond.methodLink RX0 99 yX0_noteAt, Cond.instanceMethod yX0_noteAt, Cond.selects RX0 yX0_noteAt yX0_noteAt, Cond.code yX0_noteAt cX0_noteAt 3 (some .int), Cond.fieldLink RX0 21 "FiguredBass" "notes" "[I", Cond.methodLink RX0 175 yX0_parallels, Cond.instanceMethod yX0_parallels, Cond.selects RX0 yX0_parallels yX0_parallels, Cond.code yX0_parallels cX0_parallels 6 (some .int), Cond.methodLink RX0 184 yX0_moves]
def wsX0_faultsOf_r2 : List Cond := [Cond.instanceMethod yX0_moves, Cond.selects RX0 yX0_moves yX0_moves, Cond.code yX0_moves cX0_moves 3 (some .boolean), Cond.methodLink RX0 187 yX0_isInterval, Cond.instanceMethod yX0_isInterval, Cond.selects RX0 yX0_isInterval yX0_isInterval, Cond.code yX0_isInterval cX0_isInterval 6 (some .boolean), Cond.methodLink RX0 123 yX0_pitchOf, Cond.instanceMethod yX0_pitchOf, Cond.selects RX0 yX0_pitchOf yX0_pitchOf, Cond.code yX0_pitchOf cX0_pitchOf 3 (some .int), Cond.fieldLink RX0 13 "FiguredBass" "inMinor" "Z", Cond.fieldLink RX0 145 "FiguredBass" "MINOR" "[I", Cond.fieldLink RX0 148 "FiguredBass" "MAJOR" "[I", Cond.methodLink RX0 178 yX0_isHidden, Cond.instanceMethod yX0_isHidden, Cond.selects RX0 yX0_isHidden yX0_isHidden, Cond.code yX0_isHidden cX0_isHidden 6 (some .boolean), Cond.methodLink RX0 181 yX0_voicesAtFault, Cond.instanceMethod yX0_voicesAtFault, Cond.selects RX0 yX0_voicesAtFault yX0_voicesAtFault, Cond.code yX0_voicesAtFault cX0_voicesAtFault 5 (some .int), Cond.methodLink RX0 190 yX0_isAtFault, Cond.instanceMethod yX0_isAtFault]
def wsX0_faultsOf_r3 : List Cond := [Cond.selects RX0 yX0_isAtFault yX0_isAtFault, Cond.code yX0_isAtFault cX0_isAtFault 8 (some .boolean), Cond.fieldLink RX0 17 "FiguredBass" "figures" "[I", Cond.methodLink RX0 151 yX0_stepAbove, Cond.static yX0_stepAbove, Cond.code yX0_stepAbove cX0_stepAbove 3 (some .int)]
def wsX0_faultsOf : List Cond := .code yX0_faultsOf cX0_faultsOf 3 (some .int) :: ((wsX0_faultsOf_r1 ++ (wsX0_faultsOf_r2 ++ wsX0_faultsOf_r3)) ++ wsX00)
def wsX0_costOf_r1 : List Cond := [Cond.fieldLink RX0 24 "FiguredBass" "weights" "[I", Cond.methodLink RX0 154 yX0_isSet, Cond.instanceMethod yX0_isSet, Cond.selects RX0 yX0_isSet yX0_isSet, Cond.initialized RX0, Cond.code yX0_isSet cX0_isSet 2 (some .boolean), Cond.methodLink RX0 56 yX0_isChord, Cond.instanceMethod yX0_isChord, Cond.selects RX0 yX0_isChord yX0_isChord, Cond.code yX0_isChord cX0_isChord 2 (some .boolean), Cond.fieldLink RX0 7 "FiguredBass" "size" "I", Cond.methodLink RX0 99 yX0_noteAt, Cond.instanceMethod yX0_noteAt, Cond.selects RX0 yX0_noteAt yX0_noteAt, Cond.code yX0_noteAt cX0_noteAt 3 (some .int), Cond.fieldLink RX0 21 "FiguredBass" "notes" "[I", Cond.methodLink RX0 169 yX0_isRight, Cond.instanceMethod yX0_isRight, Cond.selects RX0 yX0_isRight yX0_isRight, Cond.code yX0_isRight cX0_isRight 2 (some .boolean), Cond.methodLink RX0 157 yX0_isRightWith, Cond.instanceMethod yX0_isRightWith, Cond.selects RX0 yX0_isRightWith yX0_isRightWith, Cond.code yX0_isRightWith cX0_isRightWith 7 (some .boolean)]
def wsX0_costOf_r2 : List Cond := [Cond.fieldLink RX0 132 "FiguredBass" "FIGURE_STEPS" "[I", Cond.fieldLink RX0 17 "FiguredBass" "figures" "[I", Cond.methodLink RX0 151 yX0_stepAbove, Cond.static yX0_stepAbove, Cond.code yX0_stepAbove cX0_stepAbove 3 (some .int), Cond.methodLink RX0 172 yX0_stepsGone, Cond.instanceMethod yX0_stepsGone, Cond.selects RX0 yX0_stepsGone yX0_stepsGone, Cond.code yX0_stepsGone cX0_stepsGone 4 (some .int), Cond.methodLink RX0 164 Lib.Math.abs.name, Cond.static Lib.Math.abs.name, Cond.initialized "java/lang/Math", Cond.code Lib.Math.abs.name Lib.Math.abs.code 1 (some .int), Cond.methodLink RX0 161 yX0_follows, Cond.instanceMethod yX0_follows, Cond.selects RX0 yX0_follows yX0_follows, Cond.code yX0_follows cX0_follows 2 (some .boolean), Cond.methodLink RX0 110 yX0_faultsOf, Cond.instanceMethod yX0_faultsOf, Cond.selects RX0 yX0_faultsOf yX0_faultsOf, Cond.code yX0_faultsOf cX0_faultsOf 3 (some .int), Cond.methodLink RX0 175 yX0_parallels, Cond.instanceMethod yX0_parallels, Cond.selects RX0 yX0_parallels yX0_parallels]
def wsX0_costOf_r3 : List Cond := [Cond.code yX0_parallels cX0_parallels 6 (some .int), Cond.methodLink RX0 184 yX0_moves, Cond.instanceMethod yX0_moves, Cond.selects RX0 yX0_moves yX0_moves, Cond.code yX0_moves cX0_moves 3 (some .boolean), Cond.methodLink RX0 187 yX0_isInterval, Cond.instanceMethod yX0_isInterval, Cond.selects RX0 yX0_isInterval yX0_isInterval, Cond.code yX0_isInterval cX0_isInterval 6 (some .boolean), Cond.methodLink RX0 123 yX0_pitchOf, Cond.instanceMethod yX0_pitchOf, Cond.selects RX0 yX0_pitchOf yX0_pitchOf, Cond.code yX0_pitchOf cX0_pitchOf 3 (some .int), Cond.fieldLink RX0 13 "FiguredBass" "inMinor" "Z", Cond.fieldLink RX0 145 "FiguredBass" "MINOR" "[I", Cond.fieldLink RX0 148 "FiguredBass" "MAJOR" "[I", Cond.methodLink RX0 178 yX0_isHidden, Cond.instanceMethod yX0_isHidden, Cond.selects RX0 yX0_isHidden yX0_isHidden, Cond.code yX0_isHidden cX0_isHidden 6 (some .boolean), Cond.methodLink RX0 181 yX0_voicesAtFault, Cond.instanceMethod yX0_voicesAtFault, Cond.selects RX0 yX0_voicesAtFault yX0_voicesAtFault, Cond.code yX0_voicesAtFault cX0_voicesAtFault 5 (some .int)]
def wsX0_costOf_r4 : List Cond := [Cond.methodLink RX0 190 yX0_isAtFault, Cond.instanceMethod yX0_isAtFault, Cond.selects RX0 yX0_isAtFault yX0_isAtFault, Cond.code yX0_isAtFault cX0_isAtFault 8 (some .boolean)]
def wsX0_costOf : List Cond := .code yX0_costOf cX0_costOf 4 (some .int) :: ((wsX0_costOf_r1 ++ (wsX0_costOf_r2 ++ (wsX0_costOf_r3 ++ wsX0_costOf_r4))) ++ wsX00)
def wsX0_bestWay_r1 : List Cond := [Cond.fieldLink RX0 27 "FiguredBass" "wayList" "[I", Cond.methodLink RX0 99 yX0_noteAt, Cond.instanceMethod yX0_noteAt, Cond.selects RX0 yX0_noteAt yX0_noteAt, Cond.initialized RX0, Cond.code yX0_noteAt cX0_noteAt 3 (some .int), Cond.fieldLink RX0 21 "FiguredBass" "notes" "[I", Cond.methodLink RX0 129 yX0_listWays, Cond.instanceMethod yX0_listWays, Cond.selects RX0 yX0_listWays yX0_listWays, Cond.code yX0_listWays cX0_listWays 5 (some .int), Cond.fieldLink RX0 139 "FiguredBass" "LOWEST" "[I", Cond.fieldLink RX0 142 "FiguredBass" "HIGHEST" "[I", Cond.methodLink RX0 194 Lib.Math.max.name, Cond.static Lib.Math.max.name, Cond.initialized "java/lang/Math", Cond.code Lib.Math.max.name Lib.Math.max.code 2 (some .int), Cond.methodLink RX0 126 yX0_belongs, Cond.instanceMethod yX0_belongs, Cond.selects RX0 yX0_belongs yX0_belongs, Cond.code yX0_belongs cX0_belongs 4 (some .boolean), Cond.fieldLink RX0 132 "FiguredBass" "FIGURE_STEPS" "[I", Cond.fieldLink RX0 17 "FiguredBass" "figures" "[I", Cond.methodLink RX0 151 yX0_stepAbove]
def wsX0_bestWay_r2 : List Cond := [Cond.static yX0_stepAbove, Cond.code yX0_stepAbove cX0_stepAbove 3 (some .int), Cond.methodLink RX0 197 yX0_listSopranos, Cond.instanceMethod yX0_listSopranos, Cond.selects RX0 yX0_listSopranos yX0_listSopranos, Cond.code yX0_listSopranos cX0_listSopranos 7 (some .int), Cond.methodLink RX0 157 yX0_isRightWith, Cond.instanceMethod yX0_isRightWith, Cond.selects RX0 yX0_isRightWith yX0_isRightWith, Cond.code yX0_isRightWith cX0_isRightWith 7 (some .boolean), Cond.methodLink RX0 90 yX0_putWay, Cond.instanceMethod yX0_putWay, Cond.selects RX0 yX0_putWay yX0_putWay, Cond.code yX0_putWay cX0_putWay 3 none, Cond.methodLink RX0 52 yX0_putNotes, Cond.instanceMethod yX0_putNotes, Cond.selects RX0 yX0_putNotes yX0_putNotes, Cond.code yX0_putNotes cX0_putNotes 5 none, Cond.methodLink RX0 94 yX0_costOf, Cond.instanceMethod yX0_costOf, Cond.selects RX0 yX0_costOf yX0_costOf, Cond.code yX0_costOf cX0_costOf 4 (some .int), Cond.fieldLink RX0 24 "FiguredBass" "weights" "[I", Cond.methodLink RX0 154 yX0_isSet]
def wsX0_bestWay_r3 : List Cond := [Cond.instanceMethod yX0_isSet, Cond.selects RX0 yX0_isSet yX0_isSet, Cond.code yX0_isSet cX0_isSet 2 (some .boolean), Cond.methodLink RX0 56 yX0_isChord, Cond.instanceMethod yX0_isChord, Cond.selects RX0 yX0_isChord yX0_isChord, Cond.code yX0_isChord cX0_isChord 2 (some .boolean), Cond.fieldLink RX0 7 "FiguredBass" "size" "I", Cond.methodLink RX0 169 yX0_isRight, Cond.instanceMethod yX0_isRight, Cond.selects RX0 yX0_isRight yX0_isRight, Cond.code yX0_isRight cX0_isRight 2 (some .boolean), Cond.methodLink RX0 172 yX0_stepsGone, Cond.instanceMethod yX0_stepsGone, Cond.selects RX0 yX0_stepsGone yX0_stepsGone, Cond.code yX0_stepsGone cX0_stepsGone 4 (some .int), Cond.methodLink RX0 164 Lib.Math.abs.name, Cond.static Lib.Math.abs.name, Cond.code Lib.Math.abs.name Lib.Math.abs.code 1 (some .int), Cond.methodLink RX0 161 yX0_follows, Cond.instanceMethod yX0_follows, Cond.selects RX0 yX0_follows yX0_follows, Cond.code yX0_follows cX0_follows 2 (some .boolean), Cond.methodLink RX0 110 yX0_faultsOf]
def wsX0_bestWay_r4 : List Cond := [Cond.instanceMethod yX0_faultsOf, Cond.selects RX0 yX0_faultsOf yX0_faultsOf, Cond.code yX0_faultsOf cX0_faultsOf 3 (some .int), Cond.methodLink RX0 175 yX0_parallels, Cond.instanceMethod yX0_parallels, Cond.selects RX0 yX0_parallels yX0_parallels, Cond.code yX0_parallels cX0_parallels 6 (some .int), Cond.methodLink RX0 184 yX0_moves, Cond.instanceMethod yX0_moves, Cond.selects RX0 yX0_moves yX0_moves, Cond.code yX0_moves cX0_moves 3 (some .boolean), Cond.methodLink RX0 187 yX0_isInterval, Cond.instanceMethod yX0_isInterval, Cond.selects RX0 yX0_isInterval yX0_isInterval, Cond.code yX0_isInterval cX0_isInterval 6 (some .boolean), Cond.methodLink RX0 123 yX0_pitchOf, Cond.instanceMethod yX0_pitchOf, Cond.selects RX0 yX0_pitchOf yX0_pitchOf, Cond.code yX0_pitchOf cX0_pitchOf 3 (some .int), Cond.fieldLink RX0 13 "FiguredBass" "inMinor" "Z", Cond.fieldLink RX0 145 "FiguredBass" "MINOR" "[I", Cond.fieldLink RX0 148 "FiguredBass" "MAJOR" "[I", Cond.methodLink RX0 178 yX0_isHidden, Cond.instanceMethod yX0_isHidden]
def wsX0_bestWay_r5 : List Cond := [Cond.selects RX0 yX0_isHidden yX0_isHidden, Cond.code yX0_isHidden cX0_isHidden 6 (some .boolean), Cond.methodLink RX0 181 yX0_voicesAtFault, Cond.instanceMethod yX0_voicesAtFault, Cond.selects RX0 yX0_voicesAtFault yX0_voicesAtFault, Cond.code yX0_voicesAtFault cX0_voicesAtFault 5 (some .int), Cond.methodLink RX0 190 yX0_isAtFault, Cond.instanceMethod yX0_isAtFault, Cond.selects RX0 yX0_isAtFault yX0_isAtFault, Cond.code yX0_isAtFault cX0_isAtFault 8 (some .boolean)]
def wsX0_bestWay : List Cond := .code yX0_bestWay cX0_bestWay 10 (some .int) :: ((wsX0_bestWay_r1 ++ (wsX0_bestWay_r2 ++ (wsX0_bestWay_r3 ++ (wsX0_bestWay_r4 ++ wsX0_bestWay_r5)))) ++ wsX00)
def wsX0_lead_r1 : List Cond := [Cond.classLink RX0 59 "java/lang/IndexOutOfBoundsException", Cond.initialized "java/lang/IndexOutOfBoundsException", Cond.classLink RX0 47 "java/lang/IllegalStateException", Cond.initialized "java/lang/IllegalStateException", Cond.methodLink RX0 56 yX0_isChord, Cond.instanceMethod yX0_isChord, Cond.selects RX0 yX0_isChord yX0_isChord, Cond.initialized RX0, Cond.code yX0_isChord cX0_isChord 2 (some .boolean), Cond.fieldLink RX0 7 "FiguredBass" "size" "I", Cond.methodLink RX0 84 yX0_bestWay, Cond.instanceMethod yX0_bestWay, Cond.selects RX0 yX0_bestWay yX0_bestWay, Cond.code yX0_bestWay cX0_bestWay 10 (some .int), Cond.fieldLink RX0 27 "FiguredBass" "wayList" "[I", Cond.methodLink RX0 99 yX0_noteAt, Cond.instanceMethod yX0_noteAt, Cond.selects RX0 yX0_noteAt yX0_noteAt, Cond.code yX0_noteAt cX0_noteAt 3 (some .int), Cond.fieldLink RX0 21 "FiguredBass" "notes" "[I", Cond.methodLink RX0 129 yX0_listWays, Cond.instanceMethod yX0_listWays, Cond.selects RX0 yX0_listWays yX0_listWays, Cond.code yX0_listWays cX0_listWays 5 (some .int)]
def wsX0_lead_r2 : List Cond := [Cond.fieldLink RX0 139 "FiguredBass" "LOWEST" "[I", Cond.fieldLink RX0 142 "FiguredBass" "HIGHEST" "[I", Cond.methodLink RX0 194 Lib.Math.max.name, Cond.static Lib.Math.max.name, Cond.initialized "java/lang/Math", Cond.code Lib.Math.max.name Lib.Math.max.code 2 (some .int), Cond.methodLink RX0 126 yX0_belongs, Cond.instanceMethod yX0_belongs, Cond.selects RX0 yX0_belongs yX0_belongs, Cond.code yX0_belongs cX0_belongs 4 (some .boolean), Cond.fieldLink RX0 132 "FiguredBass" "FIGURE_STEPS" "[I", Cond.fieldLink RX0 17 "FiguredBass" "figures" "[I", Cond.methodLink RX0 151 yX0_stepAbove, Cond.static yX0_stepAbove, Cond.code yX0_stepAbove cX0_stepAbove 3 (some .int), Cond.methodLink RX0 197 yX0_listSopranos, Cond.instanceMethod yX0_listSopranos, Cond.selects RX0 yX0_listSopranos yX0_listSopranos, Cond.code yX0_listSopranos cX0_listSopranos 7 (some .int), Cond.methodLink RX0 157 yX0_isRightWith, Cond.instanceMethod yX0_isRightWith, Cond.selects RX0 yX0_isRightWith yX0_isRightWith, Cond.code yX0_isRightWith cX0_isRightWith 7 (some .boolean), Cond.methodLink RX0 90 yX0_putWay]
def wsX0_lead_r3 : List Cond := [Cond.instanceMethod yX0_putWay, Cond.selects RX0 yX0_putWay yX0_putWay, Cond.code yX0_putWay cX0_putWay 3 none, Cond.methodLink RX0 52 yX0_putNotes, Cond.instanceMethod yX0_putNotes, Cond.selects RX0 yX0_putNotes yX0_putNotes, Cond.code yX0_putNotes cX0_putNotes 5 none, Cond.methodLink RX0 94 yX0_costOf, Cond.instanceMethod yX0_costOf, Cond.selects RX0 yX0_costOf yX0_costOf, Cond.code yX0_costOf cX0_costOf 4 (some .int), Cond.fieldLink RX0 24 "FiguredBass" "weights" "[I", Cond.methodLink RX0 154 yX0_isSet, Cond.instanceMethod yX0_isSet, Cond.selects RX0 yX0_isSet yX0_isSet, Cond.code yX0_isSet cX0_isSet 2 (some .boolean), Cond.methodLink RX0 169 yX0_isRight, Cond.instanceMethod yX0_isRight, Cond.selects RX0 yX0_isRight yX0_isRight, Cond.code yX0_isRight cX0_isRight 2 (some .boolean), Cond.methodLink RX0 172 yX0_stepsGone, Cond.instanceMethod yX0_stepsGone, Cond.selects RX0 yX0_stepsGone yX0_stepsGone, Cond.code yX0_stepsGone cX0_stepsGone 4 (some .int)]
def wsX0_lead_r4 : List Cond := [Cond.methodLink RX0 164 Lib.Math.abs.name, Cond.static Lib.Math.abs.name, Cond.code Lib.Math.abs.name Lib.Math.abs.code 1 (some .int), Cond.methodLink RX0 161 yX0_follows, Cond.instanceMethod yX0_follows, Cond.selects RX0 yX0_follows yX0_follows, Cond.code yX0_follows cX0_follows 2 (some .boolean), Cond.methodLink RX0 110 yX0_faultsOf, Cond.instanceMethod yX0_faultsOf, Cond.selects RX0 yX0_faultsOf yX0_faultsOf, Cond.code yX0_faultsOf cX0_faultsOf 3 (some .int), Cond.methodLink RX0 175 yX0_parallels, Cond.instanceMethod yX0_parallels, Cond.selects RX0 yX0_parallels yX0_parallels, Cond.code yX0_parallels cX0_parallels 6 (some .int), Cond.methodLink RX0 184 yX0_moves, Cond.instanceMethod yX0_moves, Cond.selects RX0 yX0_moves yX0_moves, Cond.code yX0_moves cX0_moves 3 (some .boolean), Cond.methodLink RX0 187 yX0_isInterval, Cond.instanceMethod yX0_isInterval, Cond.selects RX0 yX0_isInterval yX0_isInterval, Cond.code yX0_isInterval cX0_isInterval 6 (some .boolean), Cond.methodLink RX0 123 yX0_pitchOf]
def wsX0_lead_r5 : List Cond := [Cond.instanceMethod yX0_pitchOf, Cond.selects RX0 yX0_pitchOf yX0_pitchOf, Cond.code yX0_pitchOf cX0_pitchOf 3 (some .int), Cond.fieldLink RX0 13 "FiguredBass" "inMinor" "Z", Cond.fieldLink RX0 145 "FiguredBass" "MINOR" "[I", Cond.fieldLink RX0 148 "FiguredBass" "MAJOR" "[I", Cond.methodLink RX0 178 yX0_isHidden, Cond.instanceMethod yX0_isHidden, Cond.selects RX0 yX0_isHidden yX0_isHidden, Cond.code yX0_isHidden cX0_isHidden 6 (some .boolean), Cond.methodLink RX0 181 yX0_voicesAtFault, Cond.instanceMethod yX0_voicesAtFault, Cond.selects RX0 yX0_voicesAtFault yX0_voicesAtFault, Cond.code yX0_voicesAtFault cX0_voicesAtFault 5 (some .int), Cond.methodLink RX0 190 yX0_isAtFault, Cond.instanceMethod yX0_isAtFault, Cond.selects RX0 yX0_isAtFault yX0_isAtFault, Cond.code yX0_isAtFault cX0_isAtFault 8 (some .boolean)]
def wsX0_lead : List Cond := .code yX0_lead cX0_lead 3 (some .int) :: ((wsX0_lead_r1 ++ (wsX0_lead_r2 ++ (wsX0_lead_r3 ++ (wsX0_lead_r4 ++ wsX0_lead_r5)))) ++ wsX00 ++ (vx_atS RX0 63 "java/lang/IndexOutOfBoundsException" ["java/lang/RuntimeException", "java/lang/Exception"]).filter goodWord ++ (vx_atS RX0 51 "java/lang/IllegalStateException" ["java/lang/RuntimeException", "java/lang/Exception"]).filter goodWord)
def wsX0_leadAll_r1 : List Cond := [Cond.fieldLink RX0 7 "FiguredBass" "size" "I", Cond.methodLink RX0 84 yX0_bestWay, Cond.instanceMethod yX0_bestWay, Cond.selects RX0 yX0_bestWay yX0_bestWay, Cond.initialized RX0, Cond.code yX0_bestWay cX0_bestWay 10 (some .int), Cond.fieldLink RX0 27 "FiguredBass" "wayList" "[I", Cond.methodLink RX0 99 yX0_noteAt, Cond.instanceMethod yX0_noteAt, Cond.selects RX0 yX0_noteAt yX0_noteAt, Cond.code yX0_noteAt cX0_noteAt 3 (some .int), Cond.fieldLink RX0 21 "FiguredBass" "notes" "[I", Cond.methodLink RX0 129 yX0_listWays, Cond.instanceMethod yX0_listWays, Cond.selects RX0 yX0_listWays yX0_listWays, Cond.code yX0_listWays cX0_listWays 5 (some .int), Cond.fieldLink RX0 139 "FiguredBass" "LOWEST" "[I", Cond.fieldLink RX0 142 "FiguredBass" "HIGHEST" "[I", Cond.methodLink RX0 194 Lib.Math.max.name, Cond.static Lib.Math.max.name, Cond.initialized "java/lang/Math", Cond.code Lib.Math.max.name Lib.Math.max.code 2 (some .int), Cond.methodLink RX0 126 yX0_belongs, Cond.instanceMethod yX0_belongs]
def wsX0_leadAll_r2 : List Cond := [Cond.selects RX0 yX0_belongs yX0_belongs, Cond.code yX0_belongs cX0_belongs 4 (some .boolean), Cond.fieldLink RX0 132 "FiguredBass" "FIGURE_STEPS" "[I", Cond.fieldLink RX0 17 "FiguredBass" "figures" "[I", Cond.methodLink RX0 151 yX0_stepAbove, Cond.static yX0_stepAbove, Cond.code yX0_stepAbove cX0_stepAbove 3 (some .int), Cond.methodLink RX0 197 yX0_listSopranos, Cond.instanceMethod yX0_listSopranos, Cond.selects RX0 yX0_listSopranos yX0_listSopranos, Cond.code yX0_listSopranos cX0_listSopranos 7 (some .int), Cond.methodLink RX0 157 yX0_isRightWith, Cond.instanceMethod yX0_isRightWith, Cond.selects RX0 yX0_isRightWith yX0_isRightWith, Cond.code yX0_isRightWith cX0_isRightWith 7 (some .boolean), Cond.methodLink RX0 90 yX0_putWay, Cond.instanceMethod yX0_putWay, Cond.selects RX0 yX0_putWay yX0_putWay, Cond.code yX0_putWay cX0_putWay 3 none, Cond.methodLink RX0 52 yX0_putNotes, Cond.instanceMethod yX0_putNotes, Cond.selects RX0 yX0_putNotes yX0_putNotes, Cond.code yX0_putNotes cX0_putNotes 5 none, Cond.methodLink RX0 94 yX0_costOf]
def wsX0_leadAll_r3 : List Cond := [Cond.instanceMethod yX0_costOf, Cond.selects RX0 yX0_costOf yX0_costOf, Cond.code yX0_costOf cX0_costOf 4 (some .int), Cond.fieldLink RX0 24 "FiguredBass" "weights" "[I", Cond.methodLink RX0 154 yX0_isSet, Cond.instanceMethod yX0_isSet, Cond.selects RX0 yX0_isSet yX0_isSet, Cond.code yX0_isSet cX0_isSet 2 (some .boolean), Cond.methodLink RX0 56 yX0_isChord, Cond.instanceMethod yX0_isChord, Cond.selects RX0 yX0_isChord yX0_isChord, Cond.code yX0_isChord cX0_isChord 2 (some .boolean), Cond.methodLink RX0 169 yX0_isRight, Cond.instanceMethod yX0_isRight, Cond.selects RX0 yX0_isRight yX0_isRight, Cond.code yX0_isRight cX0_isRight 2 (some .boolean), Cond.methodLink RX0 172 yX0_stepsGone, Cond.instanceMethod yX0_stepsGone, Cond.selects RX0 yX0_stepsGone yX0_stepsGone, Cond.code yX0_stepsGone cX0_stepsGone 4 (some .int), Cond.methodLink RX0 164 Lib.Math.abs.name, Cond.static Lib.Math.abs.name, Cond.code Lib.Math.abs.name Lib.Math.abs.code 1 (some .int), Cond.methodLink RX0 161 yX0_follows]
def wsX0_leadAll_r4 : List Cond := [Cond.instanceMethod yX0_follows, Cond.selects RX0 yX0_follows yX0_follows, Cond.code yX0_follows cX0_follows 2 (some .boolean), Cond.methodLink RX0 110 yX0_faultsOf, Cond.instanceMethod yX0_faultsOf, Cond.selects RX0 yX0_faultsOf yX0_faultsOf, Cond.code yX0_faultsOf cX0_faultsOf 3 (some .int), Cond.methodLink RX0 175 yX0_parallels, Cond.instanceMethod yX0_parallels, Cond.selects RX0 yX0_parallels yX0_parallels, Cond.code yX0_parallels cX0_parallels 6 (some .int), Cond.methodLink RX0 184 yX0_moves, Cond.instanceMethod yX0_moves, Cond.selects RX0 yX0_moves yX0_moves, Cond.code yX0_moves cX0_moves 3 (some .boolean), Cond.methodLink RX0 187 yX0_isInterval, Cond.instanceMethod yX0_isInterval, Cond.selects RX0 yX0_isInterval yX0_isInterval, Cond.code yX0_isInterval cX0_isInterval 6 (some .boolean), Cond.methodLink RX0 123 yX0_pitchOf, Cond.instanceMethod yX0_pitchOf, Cond.selects RX0 yX0_pitchOf yX0_pitchOf, Cond.code yX0_pitchOf cX0_pitchOf 3 (some .int), Cond.fieldLink RX0 13 "FiguredBass" "inMinor" "Z"]
def wsX0_leadAll_r5 : List Cond := [Cond.fieldLink RX0 145 "FiguredBass" "MINOR" "[I", Cond.fieldLink RX0 148 "FiguredBass" "MAJOR" "[I", Cond.methodLink RX0 178 yX0_isHidden, Cond.instanceMethod yX0_isHidden, Cond.selects RX0 yX0_isHidden yX0_isHidden, Cond.code yX0_isHidden cX0_isHidden 6 (some .boolean), Cond.methodLink RX0 181 yX0_voicesAtFault, Cond.instanceMethod yX0_voicesAtFault, Cond.selects RX0 yX0_voicesAtFault yX0_voicesAtFault, Cond.code yX0_voicesAtFault cX0_voicesAtFault 5 (some .int), Cond.methodLink RX0 190 yX0_isAtFault, Cond.instanceMethod yX0_isAtFault, Cond.selects RX0 yX0_isAtFault yX0_isAtFault, Cond.code yX0_isAtFault cX0_isAtFault 8 (some .boolean)]
def wsX0_leadAll : List Cond := .code yX0_leadAll cX0_leadAll 4 (some .int) :: ((wsX0_leadAll_r1 ++ (wsX0_leadAll_r2 ++ (wsX0_leadAll_r3 ++ (wsX0_leadAll_r4 ++ wsX0_leadAll_r5)))) ++ wsX00)
def wsX0_note : List Cond := .code yX0_note cX0_note 3 (some .int) :: ([.classLink RX0 59 "java/lang/IndexOutOfBoundsException", .initialized "java/lang/IndexOutOfBoundsException", .methodLink RX0 56 yX0_isChord, .instanceMethod yX0_isChord, .selects RX0 yX0_isChord yX0_isChord, .initialized RX0, .code yX0_isChord cX0_isChord 2 (some .boolean), .fieldLink RX0 7 "FiguredBass" "size" "I", .methodLink RX0 99 yX0_noteAt, .instanceMethod yX0_noteAt, .selects RX0 yX0_noteAt yX0_noteAt, .code yX0_noteAt cX0_noteAt 3 (some .int), .fieldLink RX0 21 "FiguredBass" "notes" "[I"] ++ wsX00 ++ (vx_atS RX0 63 "java/lang/IndexOutOfBoundsException" ["java/lang/RuntimeException", "java/lang/Exception"]).filter goodWord)
def wsX0_tellOf_r1 : List Cond := [Cond.fieldLink RX0 17 "FiguredBass" "figures" "[I", Cond.methodLink RX0 99 yX0_noteAt, Cond.instanceMethod yX0_noteAt, Cond.selects RX0 yX0_noteAt yX0_noteAt, Cond.initialized RX0, Cond.code yX0_noteAt cX0_noteAt 3 (some .int), Cond.fieldLink RX0 21 "FiguredBass" "notes" "[I", Cond.methodLink RX0 154 yX0_isSet, Cond.instanceMethod yX0_isSet, Cond.selects RX0 yX0_isSet yX0_isSet, Cond.code yX0_isSet cX0_isSet 2 (some .boolean), Cond.methodLink RX0 56 yX0_isChord, Cond.instanceMethod yX0_isChord, Cond.selects RX0 yX0_isChord yX0_isChord, Cond.code yX0_isChord cX0_isChord 2 (some .boolean), Cond.fieldLink RX0 7 "FiguredBass" "size" "I", Cond.methodLink RX0 169 yX0_isRight, Cond.instanceMethod yX0_isRight, Cond.selects RX0 yX0_isRight yX0_isRight, Cond.code yX0_isRight cX0_isRight 2 (some .boolean), Cond.methodLink RX0 157 yX0_isRightWith, Cond.instanceMethod yX0_isRightWith, Cond.selects RX0 yX0_isRightWith yX0_isRightWith, Cond.code yX0_isRightWith cX0_isRightWith 7 (some .boolean)]
def wsX0_tellOf_r2 : List Cond := [Cond.fieldLink RX0 132 "FiguredBass" "FIGURE_STEPS" "[I", Cond.methodLink RX0 151 yX0_stepAbove, Cond.static yX0_stepAbove, Cond.code yX0_stepAbove cX0_stepAbove 3 (some .int), Cond.methodLink RX0 172 yX0_stepsGone, Cond.instanceMethod yX0_stepsGone, Cond.selects RX0 yX0_stepsGone yX0_stepsGone, Cond.code yX0_stepsGone cX0_stepsGone 4 (some .int), Cond.methodLink RX0 164 Lib.Math.abs.name, Cond.static Lib.Math.abs.name, Cond.initialized "java/lang/Math", Cond.code Lib.Math.abs.name Lib.Math.abs.code 1 (some .int), Cond.methodLink RX0 161 yX0_follows, Cond.instanceMethod yX0_follows, Cond.selects RX0 yX0_follows yX0_follows, Cond.code yX0_follows cX0_follows 2 (some .boolean), Cond.methodLink RX0 94 yX0_costOf, Cond.instanceMethod yX0_costOf, Cond.selects RX0 yX0_costOf yX0_costOf, Cond.code yX0_costOf cX0_costOf 4 (some .int), Cond.fieldLink RX0 24 "FiguredBass" "weights" "[I", Cond.methodLink RX0 110 yX0_faultsOf, Cond.instanceMethod yX0_faultsOf, Cond.selects RX0 yX0_faultsOf yX0_faultsOf]
def wsX0_tellOf_r3 : List Cond := [Cond.code yX0_faultsOf cX0_faultsOf 3 (some .int), Cond.methodLink RX0 175 yX0_parallels, Cond.instanceMethod yX0_parallels, Cond.selects RX0 yX0_parallels yX0_parallels, Cond.code yX0_parallels cX0_parallels 6 (some .int), Cond.methodLink RX0 184 yX0_moves, Cond.instanceMethod yX0_moves, Cond.selects RX0 yX0_moves yX0_moves, Cond.code yX0_moves cX0_moves 3 (some .boolean), Cond.methodLink RX0 187 yX0_isInterval, Cond.instanceMethod yX0_isInterval, Cond.selects RX0 yX0_isInterval yX0_isInterval, Cond.code yX0_isInterval cX0_isInterval 6 (some .boolean), Cond.methodLink RX0 123 yX0_pitchOf, Cond.instanceMethod yX0_pitchOf, Cond.selects RX0 yX0_pitchOf yX0_pitchOf, Cond.code yX0_pitchOf cX0_pitchOf 3 (some .int), Cond.fieldLink RX0 13 "FiguredBass" "inMinor" "Z", Cond.fieldLink RX0 145 "FiguredBass" "MINOR" "[I", Cond.fieldLink RX0 148 "FiguredBass" "MAJOR" "[I", Cond.methodLink RX0 178 yX0_isHidden, Cond.instanceMethod yX0_isHidden, Cond.selects RX0 yX0_isHidden yX0_isHidden, Cond.code yX0_isHidden cX0_isHidden 6 (some .boolean)]
def wsX0_tellOf_r4 : List Cond := [Cond.methodLink RX0 181 yX0_voicesAtFault, Cond.instanceMethod yX0_voicesAtFault, Cond.selects RX0 yX0_voicesAtFault yX0_voicesAtFault, Cond.code yX0_voicesAtFault cX0_voicesAtFault 5 (some .int), Cond.methodLink RX0 190 yX0_isAtFault, Cond.instanceMethod yX0_isAtFault, Cond.selects RX0 yX0_isAtFault yX0_isAtFault, Cond.code yX0_isAtFault cX0_isAtFault 8 (some .boolean)]
def wsX0_tellOf : List Cond := .code yX0_tellOf cX0_tellOf 3 (some .int) :: ((wsX0_tellOf_r1 ++ (wsX0_tellOf_r2 ++ (wsX0_tellOf_r3 ++ wsX0_tellOf_r4))) ++ wsX00)
def wsX0_told_r1 : List Cond := [Cond.classLink RX0 59 "java/lang/IndexOutOfBoundsException", Cond.initialized "java/lang/IndexOutOfBoundsException", Cond.methodLink RX0 56 yX0_isChord, Cond.instanceMethod yX0_isChord, Cond.selects RX0 yX0_isChord yX0_isChord, Cond.initialized RX0, Cond.code yX0_isChord cX0_isChord 2 (some .boolean), Cond.fieldLink RX0 7 "FiguredBass" "size" "I", Cond.methodLink RX0 105 yX0_tellOf, Cond.instanceMethod yX0_tellOf, Cond.selects RX0 yX0_tellOf yX0_tellOf, Cond.code yX0_tellOf cX0_tellOf 3 (some .int), Cond.fieldLink RX0 17 "FiguredBass" "figures" "[I", Cond.methodLink RX0 99 yX0_noteAt, Cond.instanceMethod yX0_noteAt, Cond.selects RX0 yX0_noteAt yX0_noteAt, Cond.code yX0_noteAt cX0_noteAt 3 (some .int), Cond.fieldLink RX0 21 "FiguredBass" "notes" "[I", Cond.methodLink RX0 154 yX0_isSet, Cond.instanceMethod yX0_isSet, Cond.selects RX0 yX0_isSet yX0_isSet, Cond.code yX0_isSet cX0_isSet 2 (some .boolean), Cond.methodLink RX0 169 yX0_isRight, Cond.instanceMethod yX0_isRight]
def wsX0_told_r2 : List Cond := [Cond.selects RX0 yX0_isRight yX0_isRight, Cond.code yX0_isRight cX0_isRight 2 (some .boolean), Cond.methodLink RX0 157 yX0_isRightWith, Cond.instanceMethod yX0_isRightWith, Cond.selects RX0 yX0_isRightWith yX0_isRightWith, Cond.code yX0_isRightWith cX0_isRightWith 7 (some .boolean), Cond.fieldLink RX0 132 "FiguredBass" "FIGURE_STEPS" "[I", Cond.methodLink RX0 151 yX0_stepAbove, Cond.static yX0_stepAbove, Cond.code yX0_stepAbove cX0_stepAbove 3 (some .int), Cond.methodLink RX0 172 yX0_stepsGone, Cond.instanceMethod yX0_stepsGone, Cond.selects RX0 yX0_stepsGone yX0_stepsGone, Cond.code yX0_stepsGone cX0_stepsGone 4 (some .int), Cond.methodLink RX0 164 Lib.Math.abs.name, Cond.static Lib.Math.abs.name, Cond.initialized "java/lang/Math", Cond.code Lib.Math.abs.name Lib.Math.abs.code 1 (some .int), Cond.methodLink RX0 161 yX0_follows, Cond.instanceMethod yX0_follows, Cond.selects RX0 yX0_follows yX0_follows, Cond.code yX0_follows cX0_follows 2 (some .boolean), Cond.methodLink RX0 94 yX0_costOf, Cond.instanceMethod yX0_costOf]
def wsX0_told_r3 : List Cond := [Cond.selects RX0 yX0_costOf yX0_costOf, Cond.code yX0_costOf cX0_costOf 4 (some .int), Cond.fieldLink RX0 24 "FiguredBass" "weights" "[I", Cond.methodLink RX0 110 yX0_faultsOf, Cond.instanceMethod yX0_faultsOf, Cond.selects RX0 yX0_faultsOf yX0_faultsOf, Cond.code yX0_faultsOf cX0_faultsOf 3 (some .int), Cond.methodLink RX0 175 yX0_parallels, Cond.instanceMethod yX0_parallels, Cond.selects RX0 yX0_parallels yX0_parallels, Cond.code yX0_parallels cX0_parallels 6 (some .int), Cond.methodLink RX0 184 yX0_moves, Cond.instanceMethod yX0_moves, Cond.selects RX0 yX0_moves yX0_moves, Cond.code yX0_moves cX0_moves 3 (some .boolean), Cond.methodLink RX0 187 yX0_isInterval, Cond.instanceMethod yX0_isInterval, Cond.selects RX0 yX0_isInterval yX0_isInterval, Cond.code yX0_isInterval cX0_isInterval 6 (some .boolean), Cond.methodLink RX0 123 yX0_pitchOf, Cond.instanceMethod yX0_pitchOf, Cond.selects RX0 yX0_pitchOf yX0_pitchOf, Cond.code yX0_pitchOf cX0_pitchOf 3 (some .int), Cond.fieldLink RX0 13 "FiguredBass" "inMinor" "Z"]
def wsX0_told_r4 : List Cond := [Cond.fieldLink RX0 145 "FiguredBass" "MINOR" "[I", Cond.fieldLink RX0 148 "FiguredBass" "MAJOR" "[I", Cond.methodLink RX0 178 yX0_isHidden, Cond.instanceMethod yX0_isHidden, Cond.selects RX0 yX0_isHidden yX0_isHidden, Cond.code yX0_isHidden cX0_isHidden 6 (some .boolean), Cond.methodLink RX0 181 yX0_voicesAtFault, Cond.instanceMethod yX0_voicesAtFault, Cond.selects RX0 yX0_voicesAtFault yX0_voicesAtFault, Cond.code yX0_voicesAtFault cX0_voicesAtFault 5 (some .int), Cond.methodLink RX0 190 yX0_isAtFault, Cond.instanceMethod yX0_isAtFault, Cond.selects RX0 yX0_isAtFault yX0_isAtFault, Cond.code yX0_isAtFault cX0_isAtFault 8 (some .boolean)]
def wsX0_told : List Cond := .code yX0_told cX0_told 3 (some .int) :: ((wsX0_told_r1 ++ (wsX0_told_r2 ++ (wsX0_told_r3 ++ wsX0_told_r4))) ++ wsX00 ++ (vx_atS RX0 63 "java/lang/IndexOutOfBoundsException" ["java/lang/RuntimeException", "java/lang/Exception"]).filter goodWord)
def wsX0_faults_r1 : List Cond := [Cond.classLink RX0 59 "java/lang/IndexOutOfBoundsException", Cond.initialized "java/lang/IndexOutOfBoundsException", Cond.methodLink RX0 56 yX0_isChord, Cond.instanceMethod yX0_isChord, Cond.selects RX0 yX0_isChord yX0_isChord, Cond.initialized RX0, Cond.code yX0_isChord cX0_isChord 2 (some .boolean), Cond.fieldLink RX0 7 "FiguredBass" "size" "I", Cond.methodLink RX0 77 yX0_isFault, Cond.static yX0_isFault, Cond.code yX0_isFault cX0_isFault 1 (some .boolean), Cond.methodLink RX0 110 yX0_faultsOf, Cond.instanceMethod yX0_faultsOf, Cond.selects RX0 yX0_faultsOf yX0_faultsOf, Cond.code yX0_faultsOf cX0_faultsOf 3 (some .int), Cond.methodLink RX0 161 yX0_follows, Cond.instanceMethod yX0_follows, Cond.selects RX0 yX0_follows yX0_follows, Cond.code yX0_follows cX0_follows 2 (some .boolean), Cond.methodLink RX0 154 yX0_isSet, Cond.instanceMethod yX0_isSet, Cond.selects RX0 yX0_isSet yX0_isSet, Cond.code yX0_isSet cX0_isSet 2 (some .boolean), Cond.methodLink RX0 99 yX0_noteAt]
def wsX0_faults_r2 : List Cond := [Cond.instanceMethod yX0_noteAt, Cond.selects RX0 yX0_noteAt yX0_noteAt, Cond.code yX0_noteAt cX0_noteAt 3 (some .int), Cond.fieldLink RX0 21 "FiguredBass" "notes" "[I", Cond.methodLink RX0 175 yX0_parallels, Cond.instanceMethod yX0_parallels, Cond.selects RX0 yX0_parallels yX0_parallels, Cond.code yX0_parallels cX0_parallels 6 (some .int), Cond.methodLink RX0 184 yX0_moves, Cond.instanceMethod yX0_moves, Cond.selects RX0 yX0_moves yX0_moves, Cond.code yX0_moves cX0_moves 3 (some .boolean), Cond.methodLink RX0 187 yX0_isInterval, Cond.instanceMethod yX0_isInterval, Cond.selects RX0 yX0_isInterval yX0_isInterval, Cond.code yX0_isInterval cX0_isInterval 6 (some .boolean), Cond.methodLink RX0 123 yX0_pitchOf, Cond.instanceMethod yX0_pitchOf, Cond.selects RX0 yX0_pitchOf yX0_pitchOf, Cond.code yX0_pitchOf cX0_pitchOf 3 (some .int), Cond.fieldLink RX0 13 "FiguredBass" "inMinor" "Z", Cond.fieldLink RX0 145 "FiguredBass" "MINOR" "[I", Cond.fieldLink RX0 148 "FiguredBass" "MAJOR" "[I", Cond.methodLink RX0 178 yX0_isHidden]
def wsX0_faults_r3 : List Cond := [Cond.instanceMethod yX0_isHidden, Cond.selects RX0 yX0_isHidden yX0_isHidden, Cond.code yX0_isHidden cX0_isHidden 6 (some .boolean), Cond.methodLink RX0 181 yX0_voicesAtFault, Cond.instanceMethod yX0_voicesAtFault, Cond.selects RX0 yX0_voicesAtFault yX0_voicesAtFault, Cond.code yX0_voicesAtFault cX0_voicesAtFault 5 (some .int), Cond.methodLink RX0 190 yX0_isAtFault, Cond.instanceMethod yX0_isAtFault, Cond.selects RX0 yX0_isAtFault yX0_isAtFault, Cond.code yX0_isAtFault cX0_isAtFault 8 (some .boolean), Cond.fieldLink RX0 17 "FiguredBass" "figures" "[I", Cond.methodLink RX0 151 yX0_stepAbove, Cond.static yX0_stepAbove, Cond.code yX0_stepAbove cX0_stepAbove 3 (some .int)]
def wsX0_faults : List Cond := .code yX0_faults cX0_faults 3 (some .int) :: ((wsX0_faults_r1 ++ (wsX0_faults_r2 ++ wsX0_faults_r3)) ++ wsX00 ++ (vx_atS RX0 63 "java/lang/IndexOutOfBoundsException" ["java/lang/RuntimeException", "java/lang/Exception"]).filter goodWord)
def wsX0_allFaultsOf_r1 : List Cond := [Cond.methodLink RX0 110 yX0_faultsOf, Cond.instanceMethod yX0_faultsOf, Cond.selects RX0 yX0_faultsOf yX0_faultsOf, Cond.initialized RX0, Cond.code yX0_faultsOf cX0_faultsOf 3 (some .int), Cond.methodLink RX0 161 yX0_follows, Cond.instanceMethod yX0_follows, Cond.selects RX0 yX0_follows yX0_follows, Cond.code yX0_follows cX0_follows 2 (some .boolean), Cond.methodLink RX0 154 yX0_isSet, Cond.instanceMethod yX0_isSet, Cond.selects RX0 yX0_isSet yX0_isSet, Cond.code yX0_isSet cX0_isSet 2 (some .boolean), Cond.methodLink RX0 56 yX0_isChord, Cond.instanceMethod yX0_isChord, Cond.selects RX0 yX0_isChord yX0_isChord, Cond.code yX0_isChord cX0_isChord 2 (some .boolean), Cond.fieldLink RX0 7 "FiguredBass" "size" "I", Cond.methodLink RX0 99 yX0_noteAt, Cond.instanceMethod yX0_noteAt, Cond.selects RX0 yX0_noteAt yX0_noteAt, Cond.code yX0_noteAt cX0_noteAt 3 (some .int), Cond.fieldLink RX0 21 "FiguredBass" "notes" "[I", Cond.methodLink RX0 175 yX0_parallels]
def wsX0_allFaultsOf_r2 : List Cond := [Cond.instanceMethod yX0_parallels, Cond.selects RX0 yX0_parallels yX0_parallels, Cond.code yX0_parallels cX0_parallels 6 (some .int), Cond.methodLink RX0 184 yX0_moves, Cond.instanceMethod yX0_moves, Cond.selects RX0 yX0_moves yX0_moves, Cond.code yX0_moves cX0_moves 3 (some .boolean), Cond.methodLink RX0 187 yX0_isInterval, Cond.instanceMethod yX0_isInterval, Cond.selects RX0 yX0_isInterval yX0_isInterval, Cond.code yX0_isInterval cX0_isInterval 6 (some .boolean), Cond.methodLink RX0 123 yX0_pitchOf, Cond.instanceMethod yX0_pitchOf, Cond.selects RX0 yX0_pitchOf yX0_pitchOf, Cond.code yX0_pitchOf cX0_pitchOf 3 (some .int), Cond.fieldLink RX0 13 "FiguredBass" "inMinor" "Z", Cond.fieldLink RX0 145 "FiguredBass" "MINOR" "[I", Cond.fieldLink RX0 148 "FiguredBass" "MAJOR" "[I", Cond.methodLink RX0 178 yX0_isHidden, Cond.instanceMethod yX0_isHidden, Cond.selects RX0 yX0_isHidden yX0_isHidden, Cond.code yX0_isHidden cX0_isHidden 6 (some .boolean), Cond.methodLink RX0 181 yX0_voicesAtFault, Cond.instanceMethod yX0_voicesAtFault]
def wsX0_allFaultsOf_r3 : List Cond := [Cond.selects RX0 yX0_voicesAtFault yX0_voicesAtFault, Cond.code yX0_voicesAtFault cX0_voicesAtFault 5 (some .int), Cond.methodLink RX0 190 yX0_isAtFault, Cond.instanceMethod yX0_isAtFault, Cond.selects RX0 yX0_isAtFault yX0_isAtFault, Cond.code yX0_isAtFault cX0_isAtFault 8 (some .boolean), Cond.fieldLink RX0 17 "FiguredBass" "figures" "[I", Cond.methodLink RX0 151 yX0_stepAbove, Cond.static yX0_stepAbove, Cond.code yX0_stepAbove cX0_stepAbove 3 (some .int)]
def wsX0_allFaultsOf : List Cond := .code yX0_allFaultsOf cX0_allFaultsOf 4 (some .int) :: ((wsX0_allFaultsOf_r1 ++ (wsX0_allFaultsOf_r2 ++ wsX0_allFaultsOf_r3)) ++ wsX00)
def wsX0_countOf_r1 : List Cond := [Cond.fieldLink RX0 13 "FiguredBass" "inMinor" "Z", Cond.fieldLink RX0 7 "FiguredBass" "size" "I", Cond.methodLink RX0 154 yX0_isSet, Cond.instanceMethod yX0_isSet, Cond.selects RX0 yX0_isSet yX0_isSet, Cond.initialized RX0, Cond.code yX0_isSet cX0_isSet 2 (some .boolean), Cond.methodLink RX0 56 yX0_isChord, Cond.instanceMethod yX0_isChord, Cond.selects RX0 yX0_isChord yX0_isChord, Cond.code yX0_isChord cX0_isChord 2 (some .boolean), Cond.methodLink RX0 99 yX0_noteAt, Cond.instanceMethod yX0_noteAt, Cond.selects RX0 yX0_noteAt yX0_noteAt, Cond.code yX0_noteAt cX0_noteAt 3 (some .int), Cond.fieldLink RX0 21 "FiguredBass" "notes" "[I", Cond.methodLink RX0 169 yX0_isRight, Cond.instanceMethod yX0_isRight, Cond.selects RX0 yX0_isRight yX0_isRight, Cond.code yX0_isRight cX0_isRight 2 (some .boolean), Cond.methodLink RX0 157 yX0_isRightWith, Cond.instanceMethod yX0_isRightWith, Cond.selects RX0 yX0_isRightWith yX0_isRightWith, Cond.code yX0_isRightWith cX0_isRightWith 7 (some .boolean)]
def wsX0_countOf_r2 : List Cond := [Cond.fieldLink RX0 132 "FiguredBass" "FIGURE_STEPS" "[I", Cond.fieldLink RX0 17 "FiguredBass" "figures" "[I", Cond.methodLink RX0 151 yX0_stepAbove, Cond.static yX0_stepAbove, Cond.code yX0_stepAbove cX0_stepAbove 3 (some .int), Cond.methodLink RX0 172 yX0_stepsGone, Cond.instanceMethod yX0_stepsGone, Cond.selects RX0 yX0_stepsGone yX0_stepsGone, Cond.code yX0_stepsGone cX0_stepsGone 4 (some .int), Cond.methodLink RX0 164 Lib.Math.abs.name, Cond.static Lib.Math.abs.name, Cond.initialized "java/lang/Math", Cond.code Lib.Math.abs.name Lib.Math.abs.code 1 (some .int), Cond.methodLink RX0 161 yX0_follows, Cond.instanceMethod yX0_follows, Cond.selects RX0 yX0_follows yX0_follows, Cond.code yX0_follows cX0_follows 2 (some .boolean), Cond.methodLink RX0 201 yX0_allFaultsOf, Cond.instanceMethod yX0_allFaultsOf, Cond.selects RX0 yX0_allFaultsOf yX0_allFaultsOf, Cond.code yX0_allFaultsOf cX0_allFaultsOf 4 (some .int), Cond.methodLink RX0 110 yX0_faultsOf, Cond.instanceMethod yX0_faultsOf, Cond.selects RX0 yX0_faultsOf yX0_faultsOf]
def wsX0_countOf_r3 : List Cond := [Cond.code yX0_faultsOf cX0_faultsOf 3 (some .int), Cond.methodLink RX0 175 yX0_parallels, Cond.instanceMethod yX0_parallels, Cond.selects RX0 yX0_parallels yX0_parallels, Cond.code yX0_parallels cX0_parallels 6 (some .int), Cond.methodLink RX0 184 yX0_moves, Cond.instanceMethod yX0_moves, Cond.selects RX0 yX0_moves yX0_moves, Cond.code yX0_moves cX0_moves 3 (some .boolean), Cond.methodLink RX0 187 yX0_isInterval, Cond.instanceMethod yX0_isInterval, Cond.selects RX0 yX0_isInterval yX0_isInterval, Cond.code yX0_isInterval cX0_isInterval 6 (some .boolean), Cond.methodLink RX0 123 yX0_pitchOf, Cond.instanceMethod yX0_pitchOf, Cond.selects RX0 yX0_pitchOf yX0_pitchOf, Cond.code yX0_pitchOf cX0_pitchOf 3 (some .int), Cond.fieldLink RX0 145 "FiguredBass" "MINOR" "[I", Cond.fieldLink RX0 148 "FiguredBass" "MAJOR" "[I", Cond.methodLink RX0 178 yX0_isHidden, Cond.instanceMethod yX0_isHidden, Cond.selects RX0 yX0_isHidden yX0_isHidden, Cond.code yX0_isHidden cX0_isHidden 6 (some .boolean), Cond.methodLink RX0 181 yX0_voicesAtFault]
def wsX0_countOf_r4 : List Cond := [Cond.instanceMethod yX0_voicesAtFault, Cond.selects RX0 yX0_voicesAtFault yX0_voicesAtFault, Cond.code yX0_voicesAtFault cX0_voicesAtFault 5 (some .int), Cond.methodLink RX0 190 yX0_isAtFault, Cond.instanceMethod yX0_isAtFault, Cond.selects RX0 yX0_isAtFault yX0_isAtFault, Cond.code yX0_isAtFault cX0_isAtFault 8 (some .boolean), Cond.methodLink RX0 94 yX0_costOf, Cond.instanceMethod yX0_costOf, Cond.selects RX0 yX0_costOf yX0_costOf, Cond.code yX0_costOf cX0_costOf 4 (some .int), Cond.fieldLink RX0 24 "FiguredBass" "weights" "[I"]
def wsX0_countOf : List Cond := .code yX0_countOf cX0_countOf 4 (some .int) :: ((wsX0_countOf_r1 ++ (wsX0_countOf_r2 ++ (wsX0_countOf_r3 ++ wsX0_countOf_r4))) ++ wsX00)
def wsX0_count_r1 : List Cond := [Cond.classLink RX0 59 "java/lang/IndexOutOfBoundsException", Cond.initialized "java/lang/IndexOutOfBoundsException", Cond.methodLink RX0 115 yX0_countOf, Cond.instanceMethod yX0_countOf, Cond.selects RX0 yX0_countOf yX0_countOf, Cond.initialized RX0, Cond.code yX0_countOf cX0_countOf 4 (some .int), Cond.fieldLink RX0 13 "FiguredBass" "inMinor" "Z", Cond.fieldLink RX0 7 "FiguredBass" "size" "I", Cond.methodLink RX0 154 yX0_isSet, Cond.instanceMethod yX0_isSet, Cond.selects RX0 yX0_isSet yX0_isSet, Cond.code yX0_isSet cX0_isSet 2 (some .boolean), Cond.methodLink RX0 56 yX0_isChord, Cond.instanceMethod yX0_isChord, Cond.selects RX0 yX0_isChord yX0_isChord, Cond.code yX0_isChord cX0_isChord 2 (some .boolean), Cond.methodLink RX0 99 yX0_noteAt, Cond.instanceMethod yX0_noteAt, Cond.selects RX0 yX0_noteAt yX0_noteAt, Cond.code yX0_noteAt cX0_noteAt 3 (some .int), Cond.fieldLink RX0 21 "FiguredBass" "notes" "[I", Cond.methodLink RX0 169 yX0_isRight, Cond.instanceMethod yX0_isRight]
def wsX0_count_r2 : List Cond := [Cond.selects RX0 yX0_isRight yX0_isRight, Cond.code yX0_isRight cX0_isRight 2 (some .boolean), Cond.methodLink RX0 157 yX0_isRightWith, Cond.instanceMethod yX0_isRightWith, Cond.selects RX0 yX0_isRightWith yX0_isRightWith, Cond.code yX0_isRightWith cX0_isRightWith 7 (some .boolean), Cond.fieldLink RX0 132 "FiguredBass" "FIGURE_STEPS" "[I", Cond.fieldLink RX0 17 "FiguredBass" "figures" "[I", Cond.methodLink RX0 151 yX0_stepAbove, Cond.static yX0_stepAbove, Cond.code yX0_stepAbove cX0_stepAbove 3 (some .int), Cond.methodLink RX0 172 yX0_stepsGone, Cond.instanceMethod yX0_stepsGone, Cond.selects RX0 yX0_stepsGone yX0_stepsGone, Cond.code yX0_stepsGone cX0_stepsGone 4 (some .int), Cond.methodLink RX0 164 Lib.Math.abs.name, Cond.static Lib.Math.abs.name, Cond.initialized "java/lang/Math", Cond.code Lib.Math.abs.name Lib.Math.abs.code 1 (some .int), Cond.methodLink RX0 161 yX0_follows, Cond.instanceMethod yX0_follows, Cond.selects RX0 yX0_follows yX0_follows, Cond.code yX0_follows cX0_follows 2 (some .boolean), Cond.methodLink RX0 201 yX0_allFaultsOf]
def wsX0_count_r3 : List Cond := [Cond.instanceMethod yX0_allFaultsOf, Cond.selects RX0 yX0_allFaultsOf yX0_allFaultsOf, Cond.code yX0_allFaultsOf cX0_allFaultsOf 4 (some .int), Cond.methodLink RX0 110 yX0_faultsOf, Cond.instanceMethod yX0_faultsOf, Cond.selects RX0 yX0_faultsOf yX0_faultsOf, Cond.code yX0_faultsOf cX0_faultsOf 3 (some .int), Cond.methodLink RX0 175 yX0_parallels, Cond.instanceMethod yX0_parallels, Cond.selects RX0 yX0_parallels yX0_parallels, Cond.code yX0_parallels cX0_parallels 6 (some .int), Cond.methodLink RX0 184 yX0_moves, Cond.instanceMethod yX0_moves, Cond.selects RX0 yX0_moves yX0_moves, Cond.code yX0_moves cX0_moves 3 (some .boolean), Cond.methodLink RX0 187 yX0_isInterval, Cond.instanceMethod yX0_isInterval, Cond.selects RX0 yX0_isInterval yX0_isInterval, Cond.code yX0_isInterval cX0_isInterval 6 (some .boolean), Cond.methodLink RX0 123 yX0_pitchOf, Cond.instanceMethod yX0_pitchOf, Cond.selects RX0 yX0_pitchOf yX0_pitchOf, Cond.code yX0_pitchOf cX0_pitchOf 3 (some .int), Cond.fieldLink RX0 145 "FiguredBass" "MINOR" "[I"]
def wsX0_count_r4 : List Cond := [Cond.fieldLink RX0 148 "FiguredBass" "MAJOR" "[I", Cond.methodLink RX0 178 yX0_isHidden, Cond.instanceMethod yX0_isHidden, Cond.selects RX0 yX0_isHidden yX0_isHidden, Cond.code yX0_isHidden cX0_isHidden 6 (some .boolean), Cond.methodLink RX0 181 yX0_voicesAtFault, Cond.instanceMethod yX0_voicesAtFault, Cond.selects RX0 yX0_voicesAtFault yX0_voicesAtFault, Cond.code yX0_voicesAtFault cX0_voicesAtFault 5 (some .int), Cond.methodLink RX0 190 yX0_isAtFault, Cond.instanceMethod yX0_isAtFault, Cond.selects RX0 yX0_isAtFault yX0_isAtFault, Cond.code yX0_isAtFault cX0_isAtFault 8 (some .boolean), Cond.methodLink RX0 94 yX0_costOf, Cond.instanceMethod yX0_costOf, Cond.selects RX0 yX0_costOf yX0_costOf, Cond.code yX0_costOf cX0_costOf 4 (some .int), Cond.fieldLink RX0 24 "FiguredBass" "weights" "[I"]
def wsX0_count : List Cond := .code yX0_count cX0_count 2 (some .int) :: ((wsX0_count_r1 ++ (wsX0_count_r2 ++ (wsX0_count_r3 ++ wsX0_count_r4))) ++ wsX00 ++ (vx_atS RX0 63 "java/lang/IndexOutOfBoundsException" ["java/lang/RuntimeException", "java/lang/Exception"]).filter goodWord)
def wsX0_isNote : List Cond := .code yX0_isNote cX0_isNote 1 (some .boolean) :: ([])
def wsX0_pitch : List Cond := .code yX0_pitch cX0_pitch 2 (some .int) :: ([.classLink RX0 34 "java/lang/IllegalArgumentException", .initialized "java/lang/IllegalArgumentException", .methodLink RX0 118 yX0_isNote, .static yX0_isNote, .initialized RX0, .code yX0_isNote cX0_isNote 1 (some .boolean), .methodLink RX0 123 yX0_pitchOf, .instanceMethod yX0_pitchOf, .selects RX0 yX0_pitchOf yX0_pitchOf, .code yX0_pitchOf cX0_pitchOf 3 (some .int), .fieldLink RX0 13 "FiguredBass" "inMinor" "Z", .fieldLink RX0 145 "FiguredBass" "MINOR" "[I", .fieldLink RX0 148 "FiguredBass" "MAJOR" "[I"] ++ wsX00 ++ (vx_atS RX0 38 "java/lang/IllegalArgumentException" ["java/lang/RuntimeException", "java/lang/Exception"]).filter goodWord)
def wsX0_fits_r1 : List Cond := [Cond.classLink RX0 59 "java/lang/IndexOutOfBoundsException", Cond.initialized "java/lang/IndexOutOfBoundsException", Cond.classLink RX0 34 "java/lang/IllegalArgumentException", Cond.initialized "java/lang/IllegalArgumentException", Cond.methodLink RX0 56 yX0_isChord, Cond.instanceMethod yX0_isChord, Cond.selects RX0 yX0_isChord yX0_isChord, Cond.initialized RX0, Cond.code yX0_isChord cX0_isChord 2 (some .boolean), Cond.fieldLink RX0 7 "FiguredBass" "size" "I", Cond.methodLink RX0 68 yX0_isUpperVoice, Cond.static yX0_isUpperVoice, Cond.code yX0_isUpperVoice cX0_isUpperVoice 1 (some .boolean), Cond.methodLink RX0 118 yX0_isNote, Cond.static yX0_isNote, Cond.code yX0_isNote cX0_isNote 1 (some .boolean), Cond.methodLink RX0 30 yX0_isNoteOf, Cond.static yX0_isNoteOf, Cond.code yX0_isNoteOf cX0_isNoteOf 2 (some .boolean), Cond.fieldLink RX0 139 "FiguredBass" "LOWEST" "[I", Cond.fieldLink RX0 142 "FiguredBass" "HIGHEST" "[I", Cond.methodLink RX0 126 yX0_belongs, Cond.instanceMethod yX0_belongs, Cond.selects RX0 yX0_belongs yX0_belongs]
def wsX0_fits_r2 : List Cond := [Cond.code yX0_belongs cX0_belongs 4 (some .boolean), Cond.fieldLink RX0 132 "FiguredBass" "FIGURE_STEPS" "[I", Cond.fieldLink RX0 17 "FiguredBass" "figures" "[I", Cond.methodLink RX0 99 yX0_noteAt, Cond.instanceMethod yX0_noteAt, Cond.selects RX0 yX0_noteAt yX0_noteAt, Cond.code yX0_noteAt cX0_noteAt 3 (some .int), Cond.fieldLink RX0 21 "FiguredBass" "notes" "[I", Cond.methodLink RX0 151 yX0_stepAbove, Cond.static yX0_stepAbove, Cond.code yX0_stepAbove cX0_stepAbove 3 (some .int)]
def wsX0_fits : List Cond := .code yX0_fits cX0_fits 4 (some .boolean) :: ((wsX0_fits_r1 ++ wsX0_fits_r2) ++ wsX00 ++ (vx_atS RX0 63 "java/lang/IndexOutOfBoundsException" ["java/lang/RuntimeException", "java/lang/Exception"]).filter goodWord ++ (vx_atS RX0 38 "java/lang/IllegalArgumentException" ["java/lang/RuntimeException", "java/lang/Exception"]).filter goodWord)
def wsX0_ways_r1 : List Cond := [Cond.classLink RX0 59 "java/lang/IndexOutOfBoundsException", Cond.initialized "java/lang/IndexOutOfBoundsException", Cond.methodLink RX0 56 yX0_isChord, Cond.instanceMethod yX0_isChord, Cond.selects RX0 yX0_isChord yX0_isChord, Cond.initialized RX0, Cond.code yX0_isChord cX0_isChord 2 (some .boolean), Cond.fieldLink RX0 7 "FiguredBass" "size" "I", Cond.methodLink RX0 129 yX0_listWays, Cond.instanceMethod yX0_listWays, Cond.selects RX0 yX0_listWays yX0_listWays, Cond.code yX0_listWays cX0_listWays 5 (some .int), Cond.fieldLink RX0 139 "FiguredBass" "LOWEST" "[I", Cond.fieldLink RX0 142 "FiguredBass" "HIGHEST" "[I", Cond.methodLink RX0 194 Lib.Math.max.name, Cond.static Lib.Math.max.name, Cond.initialized "java/lang/Math", Cond.code Lib.Math.max.name Lib.Math.max.code 2 (some .int), Cond.methodLink RX0 126 yX0_belongs, Cond.instanceMethod yX0_belongs, Cond.selects RX0 yX0_belongs yX0_belongs, Cond.code yX0_belongs cX0_belongs 4 (some .boolean), Cond.fieldLink RX0 132 "FiguredBass" "FIGURE_STEPS" "[I", Cond.fieldLink RX0 17 "FiguredBass" "figures" "[I"]
def wsX0_ways_r2 : List Cond := [Cond.methodLink RX0 99 yX0_noteAt, Cond.instanceMethod yX0_noteAt, Cond.selects RX0 yX0_noteAt yX0_noteAt, Cond.code yX0_noteAt cX0_noteAt 3 (some .int), Cond.fieldLink RX0 21 "FiguredBass" "notes" "[I", Cond.methodLink RX0 151 yX0_stepAbove, Cond.static yX0_stepAbove, Cond.code yX0_stepAbove cX0_stepAbove 3 (some .int), Cond.methodLink RX0 197 yX0_listSopranos, Cond.instanceMethod yX0_listSopranos, Cond.selects RX0 yX0_listSopranos yX0_listSopranos, Cond.code yX0_listSopranos cX0_listSopranos 7 (some .int), Cond.fieldLink RX0 27 "FiguredBass" "wayList" "[I", Cond.methodLink RX0 157 yX0_isRightWith, Cond.instanceMethod yX0_isRightWith, Cond.selects RX0 yX0_isRightWith yX0_isRightWith, Cond.code yX0_isRightWith cX0_isRightWith 7 (some .boolean)]
def wsX0_ways : List Cond := .code yX0_ways cX0_ways 2 (some .int) :: ((wsX0_ways_r1 ++ wsX0_ways_r2) ++ wsX00 ++ (vx_atS RX0 63 "java/lang/IndexOutOfBoundsException" ["java/lang/RuntimeException", "java/lang/Exception"]).filter goodWord)
def wsX0_would_r1 : List Cond := [Cond.classLink RX0 59 "java/lang/IndexOutOfBoundsException", Cond.initialized "java/lang/IndexOutOfBoundsException", Cond.classLink RX0 34 "java/lang/IllegalArgumentException", Cond.initialized "java/lang/IllegalArgumentException", Cond.methodLink RX0 56 yX0_isChord, Cond.instanceMethod yX0_isChord, Cond.selects RX0 yX0_isChord yX0_isChord, Cond.initialized RX0, Cond.code yX0_isChord cX0_isChord 2 (some .boolean), Cond.fieldLink RX0 7 "FiguredBass" "size" "I", Cond.methodLink RX0 68 yX0_isUpperVoice, Cond.static yX0_isUpperVoice, Cond.code yX0_isUpperVoice cX0_isUpperVoice 1 (some .boolean), Cond.methodLink RX0 30 yX0_isNoteOf, Cond.static yX0_isNoteOf, Cond.code yX0_isNoteOf cX0_isNoteOf 2 (some .boolean), Cond.fieldLink RX0 139 "FiguredBass" "LOWEST" "[I", Cond.fieldLink RX0 142 "FiguredBass" "HIGHEST" "[I", Cond.methodLink RX0 64 yX0_exchangeNote, Cond.instanceMethod yX0_exchangeNote, Cond.selects RX0 yX0_exchangeNote yX0_exchangeNote, Cond.code yX0_exchangeNote cX0_exchangeNote 5 (some .int), Cond.fieldLink RX0 21 "FiguredBass" "notes" "[I", Cond.methodLink RX0 115 yX0_countOf]
def wsX0_would_r2 : List Cond := [Cond.instanceMethod yX0_countOf, Cond.selects RX0 yX0_countOf yX0_countOf, Cond.code yX0_countOf cX0_countOf 4 (some .int), Cond.fieldLink RX0 13 "FiguredBass" "inMinor" "Z", Cond.methodLink RX0 154 yX0_isSet, Cond.instanceMethod yX0_isSet, Cond.selects RX0 yX0_isSet yX0_isSet, Cond.code yX0_isSet cX0_isSet 2 (some .boolean), Cond.methodLink RX0 99 yX0_noteAt, Cond.instanceMethod yX0_noteAt, Cond.selects RX0 yX0_noteAt yX0_noteAt, Cond.code yX0_noteAt cX0_noteAt 3 (some .int), Cond.methodLink RX0 169 yX0_isRight, Cond.instanceMethod yX0_isRight, Cond.selects RX0 yX0_isRight yX0_isRight, Cond.code yX0_isRight cX0_isRight 2 (some .boolean), Cond.methodLink RX0 157 yX0_isRightWith, Cond.instanceMethod yX0_isRightWith, Cond.selects RX0 yX0_isRightWith yX0_isRightWith, Cond.code yX0_isRightWith cX0_isRightWith 7 (some .boolean), Cond.fieldLink RX0 132 "FiguredBass" "FIGURE_STEPS" "[I", Cond.fieldLink RX0 17 "FiguredBass" "figures" "[I", Cond.methodLink RX0 151 yX0_stepAbove, Cond.static yX0_stepAbove]
def wsX0_would_r3 : List Cond := [Cond.code yX0_stepAbove cX0_stepAbove 3 (some .int), Cond.methodLink RX0 172 yX0_stepsGone, Cond.instanceMethod yX0_stepsGone, Cond.selects RX0 yX0_stepsGone yX0_stepsGone, Cond.code yX0_stepsGone cX0_stepsGone 4 (some .int), Cond.methodLink RX0 164 Lib.Math.abs.name, Cond.static Lib.Math.abs.name, Cond.initialized "java/lang/Math", Cond.code Lib.Math.abs.name Lib.Math.abs.code 1 (some .int), Cond.methodLink RX0 161 yX0_follows, Cond.instanceMethod yX0_follows, Cond.selects RX0 yX0_follows yX0_follows, Cond.code yX0_follows cX0_follows 2 (some .boolean), Cond.methodLink RX0 201 yX0_allFaultsOf, Cond.instanceMethod yX0_allFaultsOf, Cond.selects RX0 yX0_allFaultsOf yX0_allFaultsOf, Cond.code yX0_allFaultsOf cX0_allFaultsOf 4 (some .int), Cond.methodLink RX0 110 yX0_faultsOf, Cond.instanceMethod yX0_faultsOf, Cond.selects RX0 yX0_faultsOf yX0_faultsOf, Cond.code yX0_faultsOf cX0_faultsOf 3 (some .int), Cond.methodLink RX0 175 yX0_parallels, Cond.instanceMethod yX0_parallels, Cond.selects RX0 yX0_parallels yX0_parallels]
def wsX0_would_r4 : List Cond := [Cond.code yX0_parallels cX0_parallels 6 (some .int), Cond.methodLink RX0 184 yX0_moves, Cond.instanceMethod yX0_moves, Cond.selects RX0 yX0_moves yX0_moves, Cond.code yX0_moves cX0_moves 3 (some .boolean), Cond.methodLink RX0 187 yX0_isInterval, Cond.instanceMethod yX0_isInterval, Cond.selects RX0 yX0_isInterval yX0_isInterval, Cond.code yX0_isInterval cX0_isInterval 6 (some .boolean), Cond.methodLink RX0 123 yX0_pitchOf, Cond.instanceMethod yX0_pitchOf, Cond.selects RX0 yX0_pitchOf yX0_pitchOf, Cond.code yX0_pitchOf cX0_pitchOf 3 (some .int), Cond.fieldLink RX0 145 "FiguredBass" "MINOR" "[I", Cond.fieldLink RX0 148 "FiguredBass" "MAJOR" "[I", Cond.methodLink RX0 178 yX0_isHidden, Cond.instanceMethod yX0_isHidden, Cond.selects RX0 yX0_isHidden yX0_isHidden, Cond.code yX0_isHidden cX0_isHidden 6 (some .boolean), Cond.methodLink RX0 181 yX0_voicesAtFault, Cond.instanceMethod yX0_voicesAtFault, Cond.selects RX0 yX0_voicesAtFault yX0_voicesAtFault, Cond.code yX0_voicesAtFault cX0_voicesAtFault 5 (some .int), Cond.methodLink RX0 190 yX0_isAtFault]
def wsX0_would_r5 : List Cond := [Cond.instanceMethod yX0_isAtFault, Cond.selects RX0 yX0_isAtFault yX0_isAtFault, Cond.code yX0_isAtFault cX0_isAtFault 8 (some .boolean), Cond.methodLink RX0 94 yX0_costOf, Cond.instanceMethod yX0_costOf, Cond.selects RX0 yX0_costOf yX0_costOf, Cond.code yX0_costOf cX0_costOf 4 (some .int), Cond.fieldLink RX0 24 "FiguredBass" "weights" "[I"]
def wsX0_would : List Cond := .code yX0_would cX0_would 6 (some .int) :: ((wsX0_would_r1 ++ (wsX0_would_r2 ++ (wsX0_would_r3 ++ (wsX0_would_r4 ++ wsX0_would_r5)))) ++ wsX00 ++ (vx_atS RX0 63 "java/lang/IndexOutOfBoundsException" ["java/lang/RuntimeException", "java/lang/Exception"]).filter goodWord ++ (vx_atS RX0 38 "java/lang/IllegalArgumentException" ["java/lang/RuntimeException", "java/lang/Exception"]).filter goodWord)
def wsX0_best_r1 : List Cond := [Cond.classLink RX0 59 "java/lang/IndexOutOfBoundsException", Cond.initialized "java/lang/IndexOutOfBoundsException", Cond.methodLink RX0 56 yX0_isChord, Cond.instanceMethod yX0_isChord, Cond.selects RX0 yX0_isChord yX0_isChord, Cond.initialized RX0, Cond.code yX0_isChord cX0_isChord 2 (some .boolean), Cond.fieldLink RX0 7 "FiguredBass" "size" "I", Cond.methodLink RX0 84 yX0_bestWay, Cond.instanceMethod yX0_bestWay, Cond.selects RX0 yX0_bestWay yX0_bestWay, Cond.code yX0_bestWay cX0_bestWay 10 (some .int), Cond.fieldLink RX0 27 "FiguredBass" "wayList" "[I", Cond.methodLink RX0 99 yX0_noteAt, Cond.instanceMethod yX0_noteAt, Cond.selects RX0 yX0_noteAt yX0_noteAt, Cond.code yX0_noteAt cX0_noteAt 3 (some .int), Cond.fieldLink RX0 21 "FiguredBass" "notes" "[I", Cond.methodLink RX0 129 yX0_listWays, Cond.instanceMethod yX0_listWays, Cond.selects RX0 yX0_listWays yX0_listWays, Cond.code yX0_listWays cX0_listWays 5 (some .int), Cond.fieldLink RX0 139 "FiguredBass" "LOWEST" "[I", Cond.fieldLink RX0 142 "FiguredBass" "HIGHEST" "[I"]
def wsX0_best_r2 : List Cond := [Cond.methodLink RX0 194 Lib.Math.max.name, Cond.static Lib.Math.max.name, Cond.initialized "java/lang/Math", Cond.code Lib.Math.max.name Lib.Math.max.code 2 (some .int), Cond.methodLink RX0 126 yX0_belongs, Cond.instanceMethod yX0_belongs, Cond.selects RX0 yX0_belongs yX0_belongs, Cond.code yX0_belongs cX0_belongs 4 (some .boolean), Cond.fieldLink RX0 132 "FiguredBass" "FIGURE_STEPS" "[I", Cond.fieldLink RX0 17 "FiguredBass" "figures" "[I", Cond.methodLink RX0 151 yX0_stepAbove, Cond.static yX0_stepAbove, Cond.code yX0_stepAbove cX0_stepAbove 3 (some .int), Cond.methodLink RX0 197 yX0_listSopranos, Cond.instanceMethod yX0_listSopranos, Cond.selects RX0 yX0_listSopranos yX0_listSopranos, Cond.code yX0_listSopranos cX0_listSopranos 7 (some .int), Cond.methodLink RX0 157 yX0_isRightWith, Cond.instanceMethod yX0_isRightWith, Cond.selects RX0 yX0_isRightWith yX0_isRightWith, Cond.code yX0_isRightWith cX0_isRightWith 7 (some .boolean), Cond.methodLink RX0 90 yX0_putWay, Cond.instanceMethod yX0_putWay, Cond.selects RX0 yX0_putWay yX0_putWay]
def wsX0_best_r3 : List Cond := [Cond.code yX0_putWay cX0_putWay 3 none, Cond.methodLink RX0 52 yX0_putNotes, Cond.instanceMethod yX0_putNotes, Cond.selects RX0 yX0_putNotes yX0_putNotes, Cond.code yX0_putNotes cX0_putNotes 5 none, Cond.methodLink RX0 94 yX0_costOf, Cond.instanceMethod yX0_costOf, Cond.selects RX0 yX0_costOf yX0_costOf, Cond.code yX0_costOf cX0_costOf 4 (some .int), Cond.fieldLink RX0 24 "FiguredBass" "weights" "[I", Cond.methodLink RX0 154 yX0_isSet, Cond.instanceMethod yX0_isSet, Cond.selects RX0 yX0_isSet yX0_isSet, Cond.code yX0_isSet cX0_isSet 2 (some .boolean), Cond.methodLink RX0 169 yX0_isRight, Cond.instanceMethod yX0_isRight, Cond.selects RX0 yX0_isRight yX0_isRight, Cond.code yX0_isRight cX0_isRight 2 (some .boolean), Cond.methodLink RX0 172 yX0_stepsGone, Cond.instanceMethod yX0_stepsGone, Cond.selects RX0 yX0_stepsGone yX0_stepsGone, Cond.code yX0_stepsGone cX0_stepsGone 4 (some .int), Cond.methodLink RX0 164 Lib.Math.abs.name, Cond.static Lib.Math.abs.name]
def wsX0_best_r4 : List Cond := [Cond.code Lib.Math.abs.name Lib.Math.abs.code 1 (some .int), Cond.methodLink RX0 161 yX0_follows, Cond.instanceMethod yX0_follows, Cond.selects RX0 yX0_follows yX0_follows, Cond.code yX0_follows cX0_follows 2 (some .boolean), Cond.methodLink RX0 110 yX0_faultsOf, Cond.instanceMethod yX0_faultsOf, Cond.selects RX0 yX0_faultsOf yX0_faultsOf, Cond.code yX0_faultsOf cX0_faultsOf 3 (some .int), Cond.methodLink RX0 175 yX0_parallels, Cond.instanceMethod yX0_parallels, Cond.selects RX0 yX0_parallels yX0_parallels, Cond.code yX0_parallels cX0_parallels 6 (some .int), Cond.methodLink RX0 184 yX0_moves, Cond.instanceMethod yX0_moves, Cond.selects RX0 yX0_moves yX0_moves, Cond.code yX0_moves cX0_moves 3 (some .boolean), Cond.methodLink RX0 187 yX0_isInterval, Cond.instanceMethod yX0_isInterval, Cond.selects RX0 yX0_isInterval yX0_isInterval, Cond.code yX0_isInterval cX0_isInterval 6 (some .boolean), Cond.methodLink RX0 123 yX0_pitchOf, Cond.instanceMethod yX0_pitchOf, Cond.selects RX0 yX0_pitchOf yX0_pitchOf]
def wsX0_best_r5 : List Cond := [Cond.code yX0_pitchOf cX0_pitchOf 3 (some .int), Cond.fieldLink RX0 13 "FiguredBass" "inMinor" "Z", Cond.fieldLink RX0 145 "FiguredBass" "MINOR" "[I", Cond.fieldLink RX0 148 "FiguredBass" "MAJOR" "[I", Cond.methodLink RX0 178 yX0_isHidden, Cond.instanceMethod yX0_isHidden, Cond.selects RX0 yX0_isHidden yX0_isHidden, Cond.code yX0_isHidden cX0_isHidden 6 (some .boolean), Cond.methodLink RX0 181 yX0_voicesAtFault, Cond.instanceMethod yX0_voicesAtFault, Cond.selects RX0 yX0_voicesAtFault yX0_voicesAtFault, Cond.code yX0_voicesAtFault cX0_voicesAtFault 5 (some .int), Cond.methodLink RX0 190 yX0_isAtFault, Cond.instanceMethod yX0_isAtFault, Cond.selects RX0 yX0_isAtFault yX0_isAtFault, Cond.code yX0_isAtFault cX0_isAtFault 8 (some .boolean)]
def wsX0_best : List Cond := .code yX0_best cX0_best 2 (some .int) :: ((wsX0_best_r1 ++ (wsX0_best_r2 ++ (wsX0_best_r3 ++ (wsX0_best_r4 ++ wsX0_best_r5)))) ++ wsX00 ++ (vx_atS RX0 63 "java/lang/IndexOutOfBoundsException" ["java/lang/RuntimeException", "java/lang/Exception"]).filter goodWord)
def wsX0_advise_r1 : List Cond := [Cond.classLink RX0 59 "java/lang/IndexOutOfBoundsException", Cond.initialized "java/lang/IndexOutOfBoundsException", Cond.fieldLink RX0 17 "FiguredBass" "figures" "[I", Cond.fieldLink RX0 132 "FiguredBass" "FIGURE_STEPS" "[I", Cond.methodLink RX0 56 yX0_isChord, Cond.instanceMethod yX0_isChord, Cond.selects RX0 yX0_isChord yX0_isChord, Cond.initialized RX0, Cond.code yX0_isChord cX0_isChord 2 (some .boolean), Cond.fieldLink RX0 7 "FiguredBass" "size" "I", Cond.methodLink RX0 99 yX0_noteAt, Cond.instanceMethod yX0_noteAt, Cond.selects RX0 yX0_noteAt yX0_noteAt, Cond.code yX0_noteAt cX0_noteAt 3 (some .int), Cond.fieldLink RX0 21 "FiguredBass" "notes" "[I", Cond.methodLink RX0 84 yX0_bestWay, Cond.instanceMethod yX0_bestWay, Cond.selects RX0 yX0_bestWay yX0_bestWay, Cond.code yX0_bestWay cX0_bestWay 10 (some .int), Cond.fieldLink RX0 27 "FiguredBass" "wayList" "[I", Cond.methodLink RX0 129 yX0_listWays, Cond.instanceMethod yX0_listWays, Cond.selects RX0 yX0_listWays yX0_listWays, Cond.code yX0_listWays cX0_listWays 5 (some .int)]
def wsX0_advise_r2 : List Cond := [Cond.fieldLink RX0 139 "FiguredBass" "LOWEST" "[I", Cond.fieldLink RX0 142 "FiguredBass" "HIGHEST" "[I", Cond.methodLink RX0 194 Lib.Math.max.name, Cond.static Lib.Math.max.name, Cond.initialized "java/lang/Math", Cond.code Lib.Math.max.name Lib.Math.max.code 2 (some .int), Cond.methodLink RX0 126 yX0_belongs, Cond.instanceMethod yX0_belongs, Cond.selects RX0 yX0_belongs yX0_belongs, Cond.code yX0_belongs cX0_belongs 4 (some .boolean), Cond.methodLink RX0 151 yX0_stepAbove, Cond.static yX0_stepAbove, Cond.code yX0_stepAbove cX0_stepAbove 3 (some .int), Cond.methodLink RX0 197 yX0_listSopranos, Cond.instanceMethod yX0_listSopranos, Cond.selects RX0 yX0_listSopranos yX0_listSopranos, Cond.code yX0_listSopranos cX0_listSopranos 7 (some .int), Cond.methodLink RX0 157 yX0_isRightWith, Cond.instanceMethod yX0_isRightWith, Cond.selects RX0 yX0_isRightWith yX0_isRightWith, Cond.code yX0_isRightWith cX0_isRightWith 7 (some .boolean), Cond.methodLink RX0 90 yX0_putWay, Cond.instanceMethod yX0_putWay, Cond.selects RX0 yX0_putWay yX0_putWay]
def wsX0_advise_r3 : List Cond := [Cond.code yX0_putWay cX0_putWay 3 none, Cond.methodLink RX0 52 yX0_putNotes, Cond.instanceMethod yX0_putNotes, Cond.selects RX0 yX0_putNotes yX0_putNotes, Cond.code yX0_putNotes cX0_putNotes 5 none, Cond.methodLink RX0 94 yX0_costOf, Cond.instanceMethod yX0_costOf, Cond.selects RX0 yX0_costOf yX0_costOf, Cond.code yX0_costOf cX0_costOf 4 (some .int), Cond.fieldLink RX0 24 "FiguredBass" "weights" "[I", Cond.methodLink RX0 154 yX0_isSet, Cond.instanceMethod yX0_isSet, Cond.selects RX0 yX0_isSet yX0_isSet, Cond.code yX0_isSet cX0_isSet 2 (some .boolean), Cond.methodLink RX0 169 yX0_isRight, Cond.instanceMethod yX0_isRight, Cond.selects RX0 yX0_isRight yX0_isRight, Cond.code yX0_isRight cX0_isRight 2 (some .boolean), Cond.methodLink RX0 172 yX0_stepsGone, Cond.instanceMethod yX0_stepsGone, Cond.selects RX0 yX0_stepsGone yX0_stepsGone, Cond.code yX0_stepsGone cX0_stepsGone 4 (some .int), Cond.methodLink RX0 164 Lib.Math.abs.name, Cond.static Lib.Math.abs.name]
def wsX0_advise_r4 : List Cond := [Cond.code Lib.Math.abs.name Lib.Math.abs.code 1 (some .int), Cond.methodLink RX0 161 yX0_follows, Cond.instanceMethod yX0_follows, Cond.selects RX0 yX0_follows yX0_follows, Cond.code yX0_follows cX0_follows 2 (some .boolean), Cond.methodLink RX0 110 yX0_faultsOf, Cond.instanceMethod yX0_faultsOf, Cond.selects RX0 yX0_faultsOf yX0_faultsOf, Cond.code yX0_faultsOf cX0_faultsOf 3 (some .int), Cond.methodLink RX0 175 yX0_parallels, Cond.instanceMethod yX0_parallels, Cond.selects RX0 yX0_parallels yX0_parallels, Cond.code yX0_parallels cX0_parallels 6 (some .int), Cond.methodLink RX0 184 yX0_moves, Cond.instanceMethod yX0_moves, Cond.selects RX0 yX0_moves yX0_moves, Cond.code yX0_moves cX0_moves 3 (some .boolean), Cond.methodLink RX0 187 yX0_isInterval, Cond.instanceMethod yX0_isInterval, Cond.selects RX0 yX0_isInterval yX0_isInterval, Cond.code yX0_isInterval cX0_isInterval 6 (some .boolean), Cond.methodLink RX0 123 yX0_pitchOf, Cond.instanceMethod yX0_pitchOf, Cond.selects RX0 yX0_pitchOf yX0_pitchOf]
def wsX0_advise_r5 : List Cond := [Cond.code yX0_pitchOf cX0_pitchOf 3 (some .int), Cond.fieldLink RX0 13 "FiguredBass" "inMinor" "Z", Cond.fieldLink RX0 145 "FiguredBass" "MINOR" "[I", Cond.fieldLink RX0 148 "FiguredBass" "MAJOR" "[I", Cond.methodLink RX0 178 yX0_isHidden, Cond.instanceMethod yX0_isHidden, Cond.selects RX0 yX0_isHidden yX0_isHidden, Cond.code yX0_isHidden cX0_isHidden 6 (some .boolean), Cond.methodLink RX0 181 yX0_voicesAtFault, Cond.instanceMethod yX0_voicesAtFault, Cond.selects RX0 yX0_voicesAtFault yX0_voicesAtFault, Cond.code yX0_voicesAtFault cX0_voicesAtFault 5 (some .int), Cond.methodLink RX0 190 yX0_isAtFault, Cond.instanceMethod yX0_isAtFault, Cond.selects RX0 yX0_isAtFault yX0_isAtFault, Cond.code yX0_isAtFault cX0_isAtFault 8 (some .boolean)]
def wsX0_advise : List Cond := .code yX0_advise cX0_advise 11 (some .int) :: ((wsX0_advise_r1 ++ (wsX0_advise_r2 ++ (wsX0_advise_r3 ++ (wsX0_advise_r4 ++ wsX0_advise_r5)))) ++ wsX00 ++ (vx_atS RX0 63 "java/lang/IndexOutOfBoundsException" ["java/lang/RuntimeException", "java/lang/Exception"]).filter goodWord)
def wsX0_mean_r1 : List Cond := [Cond.methodLink RX0 115 yX0_countOf, Cond.instanceMethod yX0_countOf, Cond.selects RX0 yX0_countOf yX0_countOf, Cond.initialized RX0, Cond.code yX0_countOf cX0_countOf 4 (some .int), Cond.fieldLink RX0 13 "FiguredBass" "inMinor" "Z", Cond.fieldLink RX0 7 "FiguredBass" "size" "I", Cond.methodLink RX0 154 yX0_isSet, Cond.instanceMethod yX0_isSet, Cond.selects RX0 yX0_isSet yX0_isSet, Cond.code yX0_isSet cX0_isSet 2 (some .boolean), Cond.methodLink RX0 56 yX0_isChord, Cond.instanceMethod yX0_isChord, Cond.selects RX0 yX0_isChord yX0_isChord, Cond.code yX0_isChord cX0_isChord 2 (some .boolean), Cond.methodLink RX0 99 yX0_noteAt, Cond.instanceMethod yX0_noteAt, Cond.selects RX0 yX0_noteAt yX0_noteAt, Cond.code yX0_noteAt cX0_noteAt 3 (some .int), Cond.fieldLink RX0 21 "FiguredBass" "notes" "[I", Cond.methodLink RX0 169 yX0_isRight, Cond.instanceMethod yX0_isRight, Cond.selects RX0 yX0_isRight yX0_isRight, Cond.code yX0_isRight cX0_isRight 2 (some .boolean)]
def wsX0_mean_r2 : List Cond := [Cond.methodLink RX0 157 yX0_isRightWith, Cond.instanceMethod yX0_isRightWith, Cond.selects RX0 yX0_isRightWith yX0_isRightWith, Cond.code yX0_isRightWith cX0_isRightWith 7 (some .boolean), Cond.fieldLink RX0 132 "FiguredBass" "FIGURE_STEPS" "[I", Cond.fieldLink RX0 17 "FiguredBass" "figures" "[I", Cond.methodLink RX0 151 yX0_stepAbove, Cond.static yX0_stepAbove, Cond.code yX0_stepAbove cX0_stepAbove 3 (some .int), Cond.methodLink RX0 172 yX0_stepsGone, Cond.instanceMethod yX0_stepsGone, Cond.selects RX0 yX0_stepsGone yX0_stepsGone, Cond.code yX0_stepsGone cX0_stepsGone 4 (some .int), Cond.methodLink RX0 164 Lib.Math.abs.name, Cond.static Lib.Math.abs.name, Cond.initialized "java/lang/Math", Cond.code Lib.Math.abs.name Lib.Math.abs.code 1 (some .int), Cond.methodLink RX0 161 yX0_follows, Cond.instanceMethod yX0_follows, Cond.selects RX0 yX0_follows yX0_follows, Cond.code yX0_follows cX0_follows 2 (some .boolean), Cond.methodLink RX0 201 yX0_allFaultsOf, Cond.instanceMethod yX0_allFaultsOf, Cond.selects RX0 yX0_allFaultsOf yX0_allFaultsOf]
def wsX0_mean_r3 : List Cond := [Cond.code yX0_allFaultsOf cX0_allFaultsOf 4 (some .int), Cond.methodLink RX0 110 yX0_faultsOf, Cond.instanceMethod yX0_faultsOf, Cond.selects RX0 yX0_faultsOf yX0_faultsOf, Cond.code yX0_faultsOf cX0_faultsOf 3 (some .int), Cond.methodLink RX0 175 yX0_parallels, Cond.instanceMethod yX0_parallels, Cond.selects RX0 yX0_parallels yX0_parallels, Cond.code yX0_parallels cX0_parallels 6 (some .int), Cond.methodLink RX0 184 yX0_moves, Cond.instanceMethod yX0_moves, Cond.selects RX0 yX0_moves yX0_moves, Cond.code yX0_moves cX0_moves 3 (some .boolean), Cond.methodLink RX0 187 yX0_isInterval, Cond.instanceMethod yX0_isInterval, Cond.selects RX0 yX0_isInterval yX0_isInterval, Cond.code yX0_isInterval cX0_isInterval 6 (some .boolean), Cond.methodLink RX0 123 yX0_pitchOf, Cond.instanceMethod yX0_pitchOf, Cond.selects RX0 yX0_pitchOf yX0_pitchOf, Cond.code yX0_pitchOf cX0_pitchOf 3 (some .int), Cond.fieldLink RX0 145 "FiguredBass" "MINOR" "[I", Cond.fieldLink RX0 148 "FiguredBass" "MAJOR" "[I", Cond.methodLink RX0 178 yX0_isHidden]
def wsX0_mean_r4 : List Cond := [Cond.instanceMethod yX0_isHidden, Cond.selects RX0 yX0_isHidden yX0_isHidden, Cond.code yX0_isHidden cX0_isHidden 6 (some .boolean), Cond.methodLink RX0 181 yX0_voicesAtFault, Cond.instanceMethod yX0_voicesAtFault, Cond.selects RX0 yX0_voicesAtFault yX0_voicesAtFault, Cond.code yX0_voicesAtFault cX0_voicesAtFault 5 (some .int), Cond.methodLink RX0 190 yX0_isAtFault, Cond.instanceMethod yX0_isAtFault, Cond.selects RX0 yX0_isAtFault yX0_isAtFault, Cond.code yX0_isAtFault cX0_isAtFault 8 (some .boolean), Cond.methodLink RX0 94 yX0_costOf, Cond.instanceMethod yX0_costOf, Cond.selects RX0 yX0_costOf yX0_costOf, Cond.code yX0_costOf cX0_costOf 4 (some .int), Cond.fieldLink RX0 24 "FiguredBass" "weights" "[I"]
def wsX0_mean : List Cond := .code yX0_mean cX0_mean 2 (some .double) :: ((wsX0_mean_r1 ++ (wsX0_mean_r2 ++ (wsX0_mean_r3 ++ wsX0_mean_r4))) ++ wsX00)
def wsX0_digest_r1 : List Cond := [Cond.constantLong RX0 135 (1693), Cond.constantLong RX0 137 (31), Cond.fieldLink RX0 24 "FiguredBass" "weights" "[I", Cond.fieldLink RX0 7 "FiguredBass" "size" "I", Cond.methodLink RX0 115 yX0_countOf, Cond.instanceMethod yX0_countOf, Cond.selects RX0 yX0_countOf yX0_countOf, Cond.initialized RX0, Cond.code yX0_countOf cX0_countOf 4 (some .int), Cond.fieldLink RX0 13 "FiguredBass" "inMinor" "Z", Cond.methodLink RX0 154 yX0_isSet, Cond.instanceMethod yX0_isSet, Cond.selects RX0 yX0_isSet yX0_isSet, Cond.code yX0_isSet cX0_isSet 2 (some .boolean), Cond.methodLink RX0 56 yX0_isChord, Cond.instanceMethod yX0_isChord, Cond.selects RX0 yX0_isChord yX0_isChord, Cond.code yX0_isChord cX0_isChord 2 (some .boolean), Cond.methodLink RX0 99 yX0_noteAt, Cond.instanceMethod yX0_noteAt, Cond.selects RX0 yX0_noteAt yX0_noteAt, Cond.code yX0_noteAt cX0_noteAt 3 (some .int), Cond.fieldLink RX0 21 "FiguredBass" "notes" "[I", Cond.methodLink RX0 169 yX0_isRight]
def wsX0_digest_r2 : List Cond := [Cond.instanceMethod yX0_isRight, Cond.selects RX0 yX0_isRight yX0_isRight, Cond.code yX0_isRight cX0_isRight 2 (some .boolean), Cond.methodLink RX0 157 yX0_isRightWith, Cond.instanceMethod yX0_isRightWith, Cond.selects RX0 yX0_isRightWith yX0_isRightWith, Cond.code yX0_isRightWith cX0_isRightWith 7 (some .boolean), Cond.fieldLink RX0 132 "FiguredBass" "FIGURE_STEPS" "[I", Cond.fieldLink RX0 17 "FiguredBass" "figures" "[I", Cond.methodLink RX0 151 yX0_stepAbove, Cond.static yX0_stepAbove, Cond.code yX0_stepAbove cX0_stepAbove 3 (some .int), Cond.methodLink RX0 172 yX0_stepsGone, Cond.instanceMethod yX0_stepsGone, Cond.selects RX0 yX0_stepsGone yX0_stepsGone, Cond.code yX0_stepsGone cX0_stepsGone 4 (some .int), Cond.methodLink RX0 164 Lib.Math.abs.name, Cond.static Lib.Math.abs.name, Cond.initialized "java/lang/Math", Cond.code Lib.Math.abs.name Lib.Math.abs.code 1 (some .int), Cond.methodLink RX0 161 yX0_follows, Cond.instanceMethod yX0_follows, Cond.selects RX0 yX0_follows yX0_follows, Cond.code yX0_follows cX0_follows 2 (some .boolean)]
def wsX0_digest_r3 : List Cond := [Cond.methodLink RX0 201 yX0_allFaultsOf, Cond.instanceMethod yX0_allFaultsOf, Cond.selects RX0 yX0_allFaultsOf yX0_allFaultsOf, Cond.code yX0_allFaultsOf cX0_allFaultsOf 4 (some .int), Cond.methodLink RX0 110 yX0_faultsOf, Cond.instanceMethod yX0_faultsOf, Cond.selects RX0 yX0_faultsOf yX0_faultsOf, Cond.code yX0_faultsOf cX0_faultsOf 3 (some .int), Cond.methodLink RX0 175 yX0_parallels, Cond.instanceMethod yX0_parallels, Cond.selects RX0 yX0_parallels yX0_parallels, Cond.code yX0_parallels cX0_parallels 6 (some .int), Cond.methodLink RX0 184 yX0_moves, Cond.instanceMethod yX0_moves, Cond.selects RX0 yX0_moves yX0_moves, Cond.code yX0_moves cX0_moves 3 (some .boolean), Cond.methodLink RX0 187 yX0_isInterval, Cond.instanceMethod yX0_isInterval, Cond.selects RX0 yX0_isInterval yX0_isInterval, Cond.code yX0_isInterval cX0_isInterval 6 (some .boolean), Cond.methodLink RX0 123 yX0_pitchOf, Cond.instanceMethod yX0_pitchOf, Cond.selects RX0 yX0_pitchOf yX0_pitchOf, Cond.code yX0_pitchOf cX0_pitchOf 3 (some .int)]
def wsX0_digest_r4 : List Cond := [Cond.fieldLink RX0 145 "FiguredBass" "MINOR" "[I", Cond.fieldLink RX0 148 "FiguredBass" "MAJOR" "[I", Cond.methodLink RX0 178 yX0_isHidden, Cond.instanceMethod yX0_isHidden, Cond.selects RX0 yX0_isHidden yX0_isHidden, Cond.code yX0_isHidden cX0_isHidden 6 (some .boolean), Cond.methodLink RX0 181 yX0_voicesAtFault, Cond.instanceMethod yX0_voicesAtFault, Cond.selects RX0 yX0_voicesAtFault yX0_voicesAtFault, Cond.code yX0_voicesAtFault cX0_voicesAtFault 5 (some .int), Cond.methodLink RX0 190 yX0_isAtFault, Cond.instanceMethod yX0_isAtFault, Cond.selects RX0 yX0_isAtFault yX0_isAtFault, Cond.code yX0_isAtFault cX0_isAtFault 8 (some .boolean), Cond.methodLink RX0 94 yX0_costOf, Cond.instanceMethod yX0_costOf, Cond.selects RX0 yX0_costOf yX0_costOf, Cond.code yX0_costOf cX0_costOf 4 (some .int), Cond.methodLink RX0 105 yX0_tellOf, Cond.instanceMethod yX0_tellOf, Cond.selects RX0 yX0_tellOf yX0_tellOf, Cond.code yX0_tellOf cX0_tellOf 3 (some .int), Cond.methodLink RX0 129 yX0_listWays, Cond.instanceMethod yX0_listWays]
def wsX0_digest_r5 : List Cond := [Cond.selects RX0 yX0_listWays yX0_listWays, Cond.code yX0_listWays cX0_listWays 5 (some .int), Cond.fieldLink RX0 139 "FiguredBass" "LOWEST" "[I", Cond.fieldLink RX0 142 "FiguredBass" "HIGHEST" "[I", Cond.methodLink RX0 194 Lib.Math.max.name, Cond.static Lib.Math.max.name, Cond.code Lib.Math.max.name Lib.Math.max.code 2 (some .int), Cond.methodLink RX0 126 yX0_belongs, Cond.instanceMethod yX0_belongs, Cond.selects RX0 yX0_belongs yX0_belongs, Cond.code yX0_belongs cX0_belongs 4 (some .boolean), Cond.methodLink RX0 197 yX0_listSopranos, Cond.instanceMethod yX0_listSopranos, Cond.selects RX0 yX0_listSopranos yX0_listSopranos, Cond.code yX0_listSopranos cX0_listSopranos 7 (some .int), Cond.fieldLink RX0 27 "FiguredBass" "wayList" "[I"]
def wsX0_digest : List Cond := .code yX0_digest cX0_digest 5 (some .long) :: ((wsX0_digest_r1 ++ (wsX0_digest_r2 ++ (wsX0_digest_r3 ++ (wsX0_digest_r4 ++ wsX0_digest_r5)))) ++ wsX00)
def wsX1_init : List Cond := .code yX1_init cX1_init 1 none :: ([.methodLink RX1 1 objectInit, .instanceMethod objectInit, .code objectInit ⟨#[0xb1]⟩ 1 none, .arrayClass .int, .fieldLink RX1 9 "FiguredBassModel" "notes" "[I", .fieldLink RX1 13 "FiguredBassModel" "figures" "[I", .fieldLink RX1 16 "FiguredBassModel" "weights" "[I"] ++ wsX10)
def wsX1_thrown : List Cond := .code yX1_thrown cX1_thrown 1 (some .int) :: ([.fieldLink RX1 19 "FiguredBassModel" "thrown" "I"] ++ wsX10)
def wsX1_no : List Cond := .code yX1_no cX1_no 2 (some .int) :: ([.fieldLink RX1 19 "FiguredBassModel" "thrown" "I"] ++ wsX10)
def wsX1_isIn : List Cond := .code yX1_isIn cX1_isIn 3 (some .boolean) :: ([])
def wsX1_isChord : List Cond := .code yX1_isChord cX1_isChord 2 (some .boolean) :: ([.fieldLink RX1 23 "FiguredBassModel" "chords" "I", .methodLink RX1 26 yX1_isIn, .static yX1_isIn, .initialized RX1, .code yX1_isIn cX1_isIn 3 (some .boolean)] ++ wsX10)
def wsX1_isOf : List Cond := .code yX1_isOf cX1_isOf 2 (some .boolean) :: ([.fieldLink RX1 30 "FiguredBassModel" "LOW" "[I", .fieldLink RX1 33 "FiguredBassModel" "HIGH" "[I", .methodLink RX1 26 yX1_isIn, .static yX1_isIn, .initialized RX1, .code yX1_isIn cX1_isIn 3 (some .boolean)])
def wsX1_at : List Cond := .code yX1_at cX1_at 3 (some .int) :: ([.fieldLink RX1 9 "FiguredBassModel" "notes" "[I"] ++ wsX10)
def wsX1_pitchOf : List Cond := .code yX1_pitchOf cX1_pitchOf 2 (some .int) :: ([.fieldLink RX1 36 "FiguredBassModel" "isMinor" "Z", .fieldLink RX1 40 "FiguredBassModel" "MINOR" "[I", .fieldLink RX1 43 "FiguredBassModel" "MAJOR" "[I"] ++ wsX10)
def wsX1_step : List Cond := .code yX1_step cX1_step 2 (some .int) :: ([])
def wsX1_isSet : List Cond := .code yX1_isSet cX1_isSet 2 (some .boolean) :: ([.methodLink RX1 46 yX1_at, .instanceMethod yX1_at, .selects RX1 yX1_at yX1_at, .initialized RX1, .code yX1_at cX1_at 3 (some .int), .fieldLink RX1 9 "FiguredBassModel" "notes" "[I"] ++ wsX10)
def wsX1_belongs : List Cond := .code yX1_belongs cX1_belongs 3 (some .boolean) :: ([.fieldLink RX1 50 "FiguredBassModel" "STEPS" "[I", .methodLink RX1 53 yX1_step, .static yX1_step, .initialized RX1, .code yX1_step cX1_step 2 (some .int)])
def wsX1_isRight : List Cond := .code yX1_isRight cX1_isRight 5 (some .boolean) :: ([.fieldLink RX1 50 "FiguredBassModel" "STEPS" "[I", .fieldLink RX1 13 "FiguredBassModel" "figures" "[I", .methodLink RX1 56 yX1_isSet, .instanceMethod yX1_isSet, .selects RX1 yX1_isSet yX1_isSet, .initialized RX1, .code yX1_isSet cX1_isSet 2 (some .boolean), .methodLink RX1 46 yX1_at, .instanceMethod yX1_at, .selects RX1 yX1_at yX1_at, .code yX1_at cX1_at 3 (some .int), .fieldLink RX1 9 "FiguredBassModel" "notes" "[I", .methodLink RX1 53 yX1_step, .static yX1_step, .code yX1_step cX1_step 2 (some .int)] ++ wsX10)
def wsX1_goes : List Cond := .code yX1_goes cX1_goes 3 (some .int) :: ([.methodLink RX1 46 yX1_at, .instanceMethod yX1_at, .selects RX1 yX1_at yX1_at, .initialized RX1, .code yX1_at cX1_at 3 (some .int), .fieldLink RX1 9 "FiguredBassModel" "notes" "[I"] ++ wsX10)
def wsX1_isFifth : List Cond := .code yX1_isFifth cX1_isFifth 5 (some .boolean) :: ([.methodLink RX1 46 yX1_at, .instanceMethod yX1_at, .selects RX1 yX1_at yX1_at, .initialized RX1, .code yX1_at cX1_at 3 (some .int), .fieldLink RX1 9 "FiguredBassModel" "notes" "[I", .methodLink RX1 60 yX1_pitchOf, .instanceMethod yX1_pitchOf, .selects RX1 yX1_pitchOf yX1_pitchOf, .code yX1_pitchOf cX1_pitchOf 2 (some .int), .fieldLink RX1 36 "FiguredBassModel" "isMinor" "Z", .fieldLink RX1 40 "FiguredBassModel" "MINOR" "[I", .fieldLink RX1 43 "FiguredBassModel" "MAJOR" "[I"] ++ wsX10)
def wsX1_isOctave : List Cond := .code yX1_isOctave cX1_isOctave 4 (some .boolean) :: ([.methodLink RX1 46 yX1_at, .instanceMethod yX1_at, .selects RX1 yX1_at yX1_at, .initialized RX1, .code yX1_at cX1_at 3 (some .int), .fieldLink RX1 9 "FiguredBassModel" "notes" "[I", .methodLink RX1 60 yX1_pitchOf, .instanceMethod yX1_pitchOf, .selects RX1 yX1_pitchOf yX1_pitchOf, .code yX1_pitchOf cX1_pitchOf 2 (some .int), .fieldLink RX1 36 "FiguredBassModel" "isMinor" "Z", .fieldLink RX1 40 "FiguredBassModel" "MINOR" "[I", .fieldLink RX1 43 "FiguredBassModel" "MAJOR" "[I"] ++ wsX10)
def wsX1_isPair : List Cond := .code yX1_isPair cX1_isPair 2 (some .boolean) :: ([.methodLink RX1 56 yX1_isSet, .instanceMethod yX1_isSet, .selects RX1 yX1_isSet yX1_isSet, .initialized RX1, .code yX1_isSet cX1_isSet 2 (some .boolean), .methodLink RX1 46 yX1_at, .instanceMethod yX1_at, .selects RX1 yX1_at yX1_at, .code yX1_at cX1_at 3 (some .int), .fieldLink RX1 9 "FiguredBassModel" "notes" "[I"] ++ wsX10)
def wsX1_parallels_r1 : List Cond := [Cond.methodLink RX1 64 yX1_goes, Cond.instanceMethod yX1_goes, Cond.selects RX1 yX1_goes yX1_goes, Cond.initialized RX1, Cond.code yX1_goes cX1_goes 3 (some .int), Cond.methodLink RX1 46 yX1_at, Cond.instanceMethod yX1_at, Cond.selects RX1 yX1_at yX1_at, Cond.code yX1_at cX1_at 3 (some .int), Cond.fieldLink RX1 9 "FiguredBassModel" "notes" "[I", Cond.methodLink RX1 67 yX1_isFifth, Cond.instanceMethod yX1_isFifth, Cond.selects RX1 yX1_isFifth yX1_isFifth, Cond.code yX1_isFifth cX1_isFifth 5 (some .boolean), Cond.methodLink RX1 60 yX1_pitchOf, Cond.instanceMethod yX1_pitchOf, Cond.selects RX1 yX1_pitchOf yX1_pitchOf, Cond.code yX1_pitchOf cX1_pitchOf 2 (some .int), Cond.fieldLink RX1 36 "FiguredBassModel" "isMinor" "Z", Cond.fieldLink RX1 40 "FiguredBassModel" "MINOR" "[I", Cond.fieldLink RX1 43 "FiguredBassModel" "MAJOR" "[I", Cond.methodLink RX1 70 yX1_isOctave, Cond.instanceMethod yX1_isOctave, Cond.selects RX1 yX1_isOctave yX1_isOctave]
def wsX1_parallels_r2 : List Cond := [Cond.code yX1_isOctave cX1_isOctave 4 (some .boolean)]
def wsX1_parallels : List Cond := .code yX1_parallels cX1_parallels 6 (some .int) :: ((wsX1_parallels_r1 ++ wsX1_parallels_r2) ++ wsX10)
def wsX1_isHidden_r1 : List Cond := [Cond.methodLink RX1 73 Lib.Math.abs.name, Cond.static Lib.Math.abs.name, Cond.initialized "java/lang/Math", Cond.code Lib.Math.abs.name Lib.Math.abs.code 1 (some .int), Cond.methodLink RX1 64 yX1_goes, Cond.instanceMethod yX1_goes, Cond.selects RX1 yX1_goes yX1_goes, Cond.initialized RX1, Cond.code yX1_goes cX1_goes 3 (some .int), Cond.methodLink RX1 46 yX1_at, Cond.instanceMethod yX1_at, Cond.selects RX1 yX1_at yX1_at, Cond.code yX1_at cX1_at 3 (some .int), Cond.fieldLink RX1 9 "FiguredBassModel" "notes" "[I", Cond.methodLink RX1 67 yX1_isFifth, Cond.instanceMethod yX1_isFifth, Cond.selects RX1 yX1_isFifth yX1_isFifth, Cond.code yX1_isFifth cX1_isFifth 5 (some .boolean), Cond.methodLink RX1 60 yX1_pitchOf, Cond.instanceMethod yX1_pitchOf, Cond.selects RX1 yX1_pitchOf yX1_pitchOf, Cond.code yX1_pitchOf cX1_pitchOf 2 (some .int), Cond.fieldLink RX1 36 "FiguredBassModel" "isMinor" "Z", Cond.fieldLink RX1 40 "FiguredBassModel" "MINOR" "[I"]
def wsX1_isHidden_r2 : List Cond := [Cond.fieldLink RX1 43 "FiguredBassModel" "MAJOR" "[I", Cond.methodLink RX1 70 yX1_isOctave, Cond.instanceMethod yX1_isOctave, Cond.selects RX1 yX1_isOctave yX1_isOctave, Cond.code yX1_isOctave cX1_isOctave 4 (some .boolean)]
def wsX1_isHidden : List Cond := .code yX1_isHidden cX1_isHidden 4 (some .boolean) :: ((wsX1_isHidden_r1 ++ wsX1_isHidden_r2) ++ wsX10)
def wsX1_isFault : List Cond := .code yX1_isFault cX1_isFault 6 (some .boolean) :: ([.fieldLink RX1 13 "FiguredBassModel" "figures" "[I", .methodLink RX1 73 Lib.Math.abs.name, .static Lib.Math.abs.name, .initialized "java/lang/Math", .code Lib.Math.abs.name Lib.Math.abs.code 1 (some .int), .methodLink RX1 64 yX1_goes, .instanceMethod yX1_goes, .selects RX1 yX1_goes yX1_goes, .initialized RX1, .code yX1_goes cX1_goes 3 (some .int), .methodLink RX1 46 yX1_at, .instanceMethod yX1_at, .selects RX1 yX1_at yX1_at, .code yX1_at cX1_at 3 (some .int), .fieldLink RX1 9 "FiguredBassModel" "notes" "[I", .methodLink RX1 53 yX1_step, .static yX1_step, .code yX1_step cX1_step 2 (some .int)] ++ wsX10)
def wsX1_faultsOf_r1 : List Cond := [Cond.methodLink RX1 78 yX1_isPair, Cond.instanceMethod yX1_isPair, Cond.selects RX1 yX1_isPair yX1_isPair, Cond.initialized RX1, Cond.code yX1_isPair cX1_isPair 2 (some .boolean), Cond.methodLink RX1 56 yX1_isSet, Cond.instanceMethod yX1_isSet, Cond.selects RX1 yX1_isSet yX1_isSet, Cond.code yX1_isSet cX1_isSet 2 (some .boolean), Cond.methodLink RX1 46 yX1_at, Cond.instanceMethod yX1_at, Cond.selects RX1 yX1_at yX1_at, Cond.code yX1_at cX1_at 3 (some .int), Cond.fieldLink RX1 9 "FiguredBassModel" "notes" "[I", Cond.methodLink RX1 81 yX1_parallels, Cond.instanceMethod yX1_parallels, Cond.selects RX1 yX1_parallels yX1_parallels, Cond.code yX1_parallels cX1_parallels 6 (some .int), Cond.methodLink RX1 64 yX1_goes, Cond.instanceMethod yX1_goes, Cond.selects RX1 yX1_goes yX1_goes, Cond.code yX1_goes cX1_goes 3 (some .int), Cond.methodLink RX1 67 yX1_isFifth, Cond.instanceMethod yX1_isFifth]
def wsX1_faultsOf_r2 : List Cond := [Cond.selects RX1 yX1_isFifth yX1_isFifth, Cond.code yX1_isFifth cX1_isFifth 5 (some .boolean), Cond.methodLink RX1 60 yX1_pitchOf, Cond.instanceMethod yX1_pitchOf, Cond.selects RX1 yX1_pitchOf yX1_pitchOf, Cond.code yX1_pitchOf cX1_pitchOf 2 (some .int), Cond.fieldLink RX1 36 "FiguredBassModel" "isMinor" "Z", Cond.fieldLink RX1 40 "FiguredBassModel" "MINOR" "[I", Cond.fieldLink RX1 43 "FiguredBassModel" "MAJOR" "[I", Cond.methodLink RX1 70 yX1_isOctave, Cond.instanceMethod yX1_isOctave, Cond.selects RX1 yX1_isOctave yX1_isOctave, Cond.code yX1_isOctave cX1_isOctave 4 (some .boolean), Cond.methodLink RX1 85 yX1_isHidden, Cond.instanceMethod yX1_isHidden, Cond.selects RX1 yX1_isHidden yX1_isHidden, Cond.code yX1_isHidden cX1_isHidden 4 (some .boolean), Cond.methodLink RX1 73 Lib.Math.abs.name, Cond.static Lib.Math.abs.name, Cond.initialized "java/lang/Math", Cond.code Lib.Math.abs.name Lib.Math.abs.code 1 (some .int), Cond.methodLink RX1 88 yX1_isFault, Cond.instanceMethod yX1_isFault, Cond.selects RX1 yX1_isFault yX1_isFault]
def wsX1_faultsOf_r3 : List Cond := [Cond.code yX1_isFault cX1_isFault 6 (some .boolean), Cond.fieldLink RX1 13 "FiguredBassModel" "figures" "[I", Cond.methodLink RX1 53 yX1_step, Cond.static yX1_step, Cond.code yX1_step cX1_step 2 (some .int)]
def wsX1_faultsOf : List Cond := .code yX1_faultsOf cX1_faultsOf 5 (some .int) :: ((wsX1_faultsOf_r1 ++ (wsX1_faultsOf_r2 ++ wsX1_faultsOf_r3)) ++ wsX10)
def wsX1_steps : List Cond := .code yX1_steps cX1_steps 4 (some .int) :: ([.methodLink RX1 73 Lib.Math.abs.name, .static Lib.Math.abs.name, .initialized "java/lang/Math", .code Lib.Math.abs.name Lib.Math.abs.code 1 (some .int), .methodLink RX1 78 yX1_isPair, .instanceMethod yX1_isPair, .selects RX1 yX1_isPair yX1_isPair, .initialized RX1, .code yX1_isPair cX1_isPair 2 (some .boolean), .methodLink RX1 56 yX1_isSet, .instanceMethod yX1_isSet, .selects RX1 yX1_isSet yX1_isSet, .code yX1_isSet cX1_isSet 2 (some .boolean), .methodLink RX1 46 yX1_at, .instanceMethod yX1_at, .selects RX1 yX1_at yX1_at, .code yX1_at cX1_at 3 (some .int), .fieldLink RX1 9 "FiguredBassModel" "notes" "[I", .methodLink RX1 64 yX1_goes, .instanceMethod yX1_goes, .selects RX1 yX1_goes yX1_goes, .code yX1_goes cX1_goes 3 (some .int)] ++ wsX10)
def wsX1_cost_r1 : List Cond := [Cond.fieldLink RX1 16 "FiguredBassModel" "weights" "[I", Cond.methodLink RX1 56 yX1_isSet, Cond.instanceMethod yX1_isSet, Cond.selects RX1 yX1_isSet yX1_isSet, Cond.initialized RX1, Cond.code yX1_isSet cX1_isSet 2 (some .boolean), Cond.methodLink RX1 46 yX1_at, Cond.instanceMethod yX1_at, Cond.selects RX1 yX1_at yX1_at, Cond.code yX1_at cX1_at 3 (some .int), Cond.fieldLink RX1 9 "FiguredBassModel" "notes" "[I", Cond.methodLink RX1 91 yX1_steps, Cond.instanceMethod yX1_steps, Cond.selects RX1 yX1_steps yX1_steps, Cond.code yX1_steps cX1_steps 4 (some .int), Cond.methodLink RX1 73 Lib.Math.abs.name, Cond.static Lib.Math.abs.name, Cond.initialized "java/lang/Math", Cond.code Lib.Math.abs.name Lib.Math.abs.code 1 (some .int), Cond.methodLink RX1 78 yX1_isPair, Cond.instanceMethod yX1_isPair, Cond.selects RX1 yX1_isPair yX1_isPair, Cond.code yX1_isPair cX1_isPair 2 (some .boolean), Cond.methodLink RX1 64 yX1_goes]
def wsX1_cost_r2 : List Cond := [Cond.instanceMethod yX1_goes, Cond.selects RX1 yX1_goes yX1_goes, Cond.code yX1_goes cX1_goes 3 (some .int), Cond.methodLink RX1 94 yX1_isRight, Cond.instanceMethod yX1_isRight, Cond.selects RX1 yX1_isRight yX1_isRight, Cond.code yX1_isRight cX1_isRight 5 (some .boolean), Cond.fieldLink RX1 50 "FiguredBassModel" "STEPS" "[I", Cond.fieldLink RX1 13 "FiguredBassModel" "figures" "[I", Cond.methodLink RX1 53 yX1_step, Cond.static yX1_step, Cond.code yX1_step cX1_step 2 (some .int), Cond.methodLink RX1 97 yX1_faultsOf, Cond.instanceMethod yX1_faultsOf, Cond.selects RX1 yX1_faultsOf yX1_faultsOf, Cond.code yX1_faultsOf cX1_faultsOf 5 (some .int), Cond.methodLink RX1 81 yX1_parallels, Cond.instanceMethod yX1_parallels, Cond.selects RX1 yX1_parallels yX1_parallels, Cond.code yX1_parallels cX1_parallels 6 (some .int), Cond.methodLink RX1 67 yX1_isFifth, Cond.instanceMethod yX1_isFifth, Cond.selects RX1 yX1_isFifth yX1_isFifth, Cond.code yX1_isFifth cX1_isFifth 5 (some .boolean)]
def wsX1_cost_r3 : List Cond := [Cond.methodLink RX1 60 yX1_pitchOf, Cond.instanceMethod yX1_pitchOf, Cond.selects RX1 yX1_pitchOf yX1_pitchOf, Cond.code yX1_pitchOf cX1_pitchOf 2 (some .int), Cond.fieldLink RX1 36 "FiguredBassModel" "isMinor" "Z", Cond.fieldLink RX1 40 "FiguredBassModel" "MINOR" "[I", Cond.fieldLink RX1 43 "FiguredBassModel" "MAJOR" "[I", Cond.methodLink RX1 70 yX1_isOctave, Cond.instanceMethod yX1_isOctave, Cond.selects RX1 yX1_isOctave yX1_isOctave, Cond.code yX1_isOctave cX1_isOctave 4 (some .boolean), Cond.methodLink RX1 85 yX1_isHidden, Cond.instanceMethod yX1_isHidden, Cond.selects RX1 yX1_isHidden yX1_isHidden, Cond.code yX1_isHidden cX1_isHidden 4 (some .boolean), Cond.methodLink RX1 88 yX1_isFault, Cond.instanceMethod yX1_isFault, Cond.selects RX1 yX1_isFault yX1_isFault, Cond.code yX1_isFault cX1_isFault 6 (some .boolean)]
def wsX1_cost : List Cond := .code yX1_cost cX1_cost 4 (some .int) :: ((wsX1_cost_r1 ++ (wsX1_cost_r2 ++ wsX1_cost_r3)) ++ wsX10)
def wsX1_let : List Cond := .code yX1_let cX1_let 5 none :: ([.fieldLink RX1 9 "FiguredBassModel" "notes" "[I"] ++ wsX10)
def wsX1_led_r1 : List Cond := [Cond.arrayClass .int, Cond.fieldLink RX1 30 "FiguredBassModel" "LOW" "[I", Cond.fieldLink RX1 33 "FiguredBassModel" "HIGH" "[I", Cond.fieldLink RX1 13 "FiguredBassModel" "figures" "[I", Cond.methodLink RX1 103 Lib.Math.max.name, Cond.static Lib.Math.max.name, Cond.initialized "java/lang/Math", Cond.code Lib.Math.max.name Lib.Math.max.code 2 (some .int), Cond.fieldLink RX1 23 "FiguredBassModel" "chords" "I", Cond.methodLink RX1 46 yX1_at, Cond.instanceMethod yX1_at, Cond.selects RX1 yX1_at yX1_at, Cond.initialized RX1, Cond.code yX1_at cX1_at 3 (some .int), Cond.fieldLink RX1 9 "FiguredBassModel" "notes" "[I", Cond.methodLink RX1 100 yX1_belongs, Cond.static yX1_belongs, Cond.code yX1_belongs cX1_belongs 3 (some .boolean), Cond.fieldLink RX1 50 "FiguredBassModel" "STEPS" "[I", Cond.methodLink RX1 53 yX1_step, Cond.static yX1_step, Cond.code yX1_step cX1_step 2 (some .int), Cond.methodLink RX1 106 yX1_let, Cond.instanceMethod yX1_let]
def wsX1_led_r2 : List Cond := [Cond.selects RX1 yX1_let yX1_let, Cond.code yX1_let cX1_let 5 none, Cond.methodLink RX1 94 yX1_isRight, Cond.instanceMethod yX1_isRight, Cond.selects RX1 yX1_isRight yX1_isRight, Cond.code yX1_isRight cX1_isRight 5 (some .boolean), Cond.methodLink RX1 56 yX1_isSet, Cond.instanceMethod yX1_isSet, Cond.selects RX1 yX1_isSet yX1_isSet, Cond.code yX1_isSet cX1_isSet 2 (some .boolean), Cond.methodLink RX1 110 yX1_cost, Cond.instanceMethod yX1_cost, Cond.selects RX1 yX1_cost yX1_cost, Cond.code yX1_cost cX1_cost 4 (some .int), Cond.fieldLink RX1 16 "FiguredBassModel" "weights" "[I", Cond.methodLink RX1 91 yX1_steps, Cond.instanceMethod yX1_steps, Cond.selects RX1 yX1_steps yX1_steps, Cond.code yX1_steps cX1_steps 4 (some .int), Cond.methodLink RX1 73 Lib.Math.abs.name, Cond.static Lib.Math.abs.name, Cond.code Lib.Math.abs.name Lib.Math.abs.code 1 (some .int), Cond.methodLink RX1 78 yX1_isPair, Cond.instanceMethod yX1_isPair]
def wsX1_led_r3 : List Cond := [Cond.selects RX1 yX1_isPair yX1_isPair, Cond.code yX1_isPair cX1_isPair 2 (some .boolean), Cond.methodLink RX1 64 yX1_goes, Cond.instanceMethod yX1_goes, Cond.selects RX1 yX1_goes yX1_goes, Cond.code yX1_goes cX1_goes 3 (some .int), Cond.methodLink RX1 97 yX1_faultsOf, Cond.instanceMethod yX1_faultsOf, Cond.selects RX1 yX1_faultsOf yX1_faultsOf, Cond.code yX1_faultsOf cX1_faultsOf 5 (some .int), Cond.methodLink RX1 81 yX1_parallels, Cond.instanceMethod yX1_parallels, Cond.selects RX1 yX1_parallels yX1_parallels, Cond.code yX1_parallels cX1_parallels 6 (some .int), Cond.methodLink RX1 67 yX1_isFifth, Cond.instanceMethod yX1_isFifth, Cond.selects RX1 yX1_isFifth yX1_isFifth, Cond.code yX1_isFifth cX1_isFifth 5 (some .boolean), Cond.methodLink RX1 60 yX1_pitchOf, Cond.instanceMethod yX1_pitchOf, Cond.selects RX1 yX1_pitchOf yX1_pitchOf, Cond.code yX1_pitchOf cX1_pitchOf 2 (some .int), Cond.fieldLink RX1 36 "FiguredBassModel" "isMinor" "Z", Cond.fieldLink RX1 40 "FiguredBassModel" "MINOR" "[I"]
def wsX1_led_r4 : List Cond := [Cond.fieldLink RX1 43 "FiguredBassModel" "MAJOR" "[I", Cond.methodLink RX1 70 yX1_isOctave, Cond.instanceMethod yX1_isOctave, Cond.selects RX1 yX1_isOctave yX1_isOctave, Cond.code yX1_isOctave cX1_isOctave 4 (some .boolean), Cond.methodLink RX1 85 yX1_isHidden, Cond.instanceMethod yX1_isHidden, Cond.selects RX1 yX1_isHidden yX1_isHidden, Cond.code yX1_isHidden cX1_isHidden 4 (some .boolean), Cond.methodLink RX1 88 yX1_isFault, Cond.instanceMethod yX1_isFault, Cond.selects RX1 yX1_isFault yX1_isFault, Cond.code yX1_isFault cX1_isFault 6 (some .boolean)]
def wsX1_led : List Cond := .code yX1_led cX1_led 8 (some (.array .int)) :: ((wsX1_led_r1 ++ (wsX1_led_r2 ++ (wsX1_led_r3 ++ wsX1_led_r4))) ++ wsX10)
def wsX1_isLed_r1 : List Cond := [Cond.methodLink RX1 113 yX1_led, Cond.instanceMethod yX1_led, Cond.selects RX1 yX1_led yX1_led, Cond.initialized RX1, Cond.code yX1_led cX1_led 8 (some (.array .int)), Cond.arrayClass .int, Cond.fieldLink RX1 30 "FiguredBassModel" "LOW" "[I", Cond.fieldLink RX1 33 "FiguredBassModel" "HIGH" "[I", Cond.fieldLink RX1 13 "FiguredBassModel" "figures" "[I", Cond.methodLink RX1 103 Lib.Math.max.name, Cond.static Lib.Math.max.name, Cond.initialized "java/lang/Math", Cond.code Lib.Math.max.name Lib.Math.max.code 2 (some .int), Cond.fieldLink RX1 23 "FiguredBassModel" "chords" "I", Cond.methodLink RX1 46 yX1_at, Cond.instanceMethod yX1_at, Cond.selects RX1 yX1_at yX1_at, Cond.code yX1_at cX1_at 3 (some .int), Cond.fieldLink RX1 9 "FiguredBassModel" "notes" "[I", Cond.methodLink RX1 100 yX1_belongs, Cond.static yX1_belongs, Cond.code yX1_belongs cX1_belongs 3 (some .boolean), Cond.fieldLink RX1 50 "FiguredBassModel" "STEPS" "[I", Cond.methodLink RX1 53 yX1_step]
def wsX1_isLed_r2 : List Cond := [Cond.static yX1_step, Cond.code yX1_step cX1_step 2 (some .int), Cond.methodLink RX1 106 yX1_let, Cond.instanceMethod yX1_let, Cond.selects RX1 yX1_let yX1_let, Cond.code yX1_let cX1_let 5 none, Cond.methodLink RX1 94 yX1_isRight, Cond.instanceMethod yX1_isRight, Cond.selects RX1 yX1_isRight yX1_isRight, Cond.code yX1_isRight cX1_isRight 5 (some .boolean), Cond.methodLink RX1 56 yX1_isSet, Cond.instanceMethod yX1_isSet, Cond.selects RX1 yX1_isSet yX1_isSet, Cond.code yX1_isSet cX1_isSet 2 (some .boolean), Cond.methodLink RX1 110 yX1_cost, Cond.instanceMethod yX1_cost, Cond.selects RX1 yX1_cost yX1_cost, Cond.code yX1_cost cX1_cost 4 (some .int), Cond.fieldLink RX1 16 "FiguredBassModel" "weights" "[I", Cond.methodLink RX1 91 yX1_steps, Cond.instanceMethod yX1_steps, Cond.selects RX1 yX1_steps yX1_steps, Cond.code yX1_steps cX1_steps 4 (some .int), Cond.methodLink RX1 73 Lib.Math.abs.name]
def wsX1_isLed_r3 : List Cond := [Cond.static Lib.Math.abs.name, Cond.code Lib.Math.abs.name Lib.Math.abs.code 1 (some .int), Cond.methodLink RX1 78 yX1_isPair, Cond.instanceMethod yX1_isPair, Cond.selects RX1 yX1_isPair yX1_isPair, Cond.code yX1_isPair cX1_isPair 2 (some .boolean), Cond.methodLink RX1 64 yX1_goes, Cond.instanceMethod yX1_goes, Cond.selects RX1 yX1_goes yX1_goes, Cond.code yX1_goes cX1_goes 3 (some .int), Cond.methodLink RX1 97 yX1_faultsOf, Cond.instanceMethod yX1_faultsOf, Cond.selects RX1 yX1_faultsOf yX1_faultsOf, Cond.code yX1_faultsOf cX1_faultsOf 5 (some .int), Cond.methodLink RX1 81 yX1_parallels, Cond.instanceMethod yX1_parallels, Cond.selects RX1 yX1_parallels yX1_parallels, Cond.code yX1_parallels cX1_parallels 6 (some .int), Cond.methodLink RX1 67 yX1_isFifth, Cond.instanceMethod yX1_isFifth, Cond.selects RX1 yX1_isFifth yX1_isFifth, Cond.code yX1_isFifth cX1_isFifth 5 (some .boolean), Cond.methodLink RX1 60 yX1_pitchOf, Cond.instanceMethod yX1_pitchOf]
def wsX1_isLed_r4 : List Cond := [Cond.selects RX1 yX1_pitchOf yX1_pitchOf, Cond.code yX1_pitchOf cX1_pitchOf 2 (some .int), Cond.fieldLink RX1 36 "FiguredBassModel" "isMinor" "Z", Cond.fieldLink RX1 40 "FiguredBassModel" "MINOR" "[I", Cond.fieldLink RX1 43 "FiguredBassModel" "MAJOR" "[I", Cond.methodLink RX1 70 yX1_isOctave, Cond.instanceMethod yX1_isOctave, Cond.selects RX1 yX1_isOctave yX1_isOctave, Cond.code yX1_isOctave cX1_isOctave 4 (some .boolean), Cond.methodLink RX1 85 yX1_isHidden, Cond.instanceMethod yX1_isHidden, Cond.selects RX1 yX1_isHidden yX1_isHidden, Cond.code yX1_isHidden cX1_isHidden 4 (some .boolean), Cond.methodLink RX1 88 yX1_isFault, Cond.instanceMethod yX1_isFault, Cond.selects RX1 yX1_isFault yX1_isFault, Cond.code yX1_isFault cX1_isFault 6 (some .boolean)]
def wsX1_isLed : List Cond := .code yX1_isLed cX1_isLed 3 (some .boolean) :: ((wsX1_isLed_r1 ++ (wsX1_isLed_r2 ++ (wsX1_isLed_r3 ++ wsX1_isLed_r4))) ++ wsX10)
def wsX1_chord : List Cond := .code yX1_chord cX1_chord 3 (some .int) :: ([.fieldLink RX1 19 "FiguredBassModel" "thrown" "I", .fieldLink RX1 23 "FiguredBassModel" "chords" "I", .fieldLink RX1 9 "FiguredBassModel" "notes" "[I", .fieldLink RX1 13 "FiguredBassModel" "figures" "[I", .methodLink RX1 117 yX1_isOf, .static yX1_isOf, .initialized RX1, .code yX1_isOf cX1_isOf 2 (some .boolean), .fieldLink RX1 30 "FiguredBassModel" "LOW" "[I", .fieldLink RX1 33 "FiguredBassModel" "HIGH" "[I", .methodLink RX1 26 yX1_isIn, .static yX1_isIn, .code yX1_isIn cX1_isIn 3 (some .boolean), .methodLink RX1 121 yX1_no, .instanceMethod yX1_no, .selects RX1 yX1_no yX1_no, .code yX1_no cX1_no 2 (some .int), .methodLink RX1 106 yX1_let, .instanceMethod yX1_let, .selects RX1 yX1_let yX1_let, .code yX1_let cX1_let 5 none] ++ wsX10)
def wsX1_setBass : List Cond := .code yX1_setBass cX1_setBass 4 (some .int) :: ([.fieldLink RX1 19 "FiguredBassModel" "thrown" "I", .fieldLink RX1 9 "FiguredBassModel" "notes" "[I", .methodLink RX1 124 yX1_isChord, .instanceMethod yX1_isChord, .selects RX1 yX1_isChord yX1_isChord, .initialized RX1, .code yX1_isChord cX1_isChord 2 (some .boolean), .fieldLink RX1 23 "FiguredBassModel" "chords" "I", .methodLink RX1 26 yX1_isIn, .static yX1_isIn, .code yX1_isIn cX1_isIn 3 (some .boolean), .methodLink RX1 121 yX1_no, .instanceMethod yX1_no, .selects RX1 yX1_no yX1_no, .code yX1_no cX1_no 2 (some .int), .methodLink RX1 117 yX1_isOf, .static yX1_isOf, .code yX1_isOf cX1_isOf 2 (some .boolean), .fieldLink RX1 30 "FiguredBassModel" "LOW" "[I", .fieldLink RX1 33 "FiguredBassModel" "HIGH" "[I", .methodLink RX1 46 yX1_at, .instanceMethod yX1_at, .selects RX1 yX1_at yX1_at, .code yX1_at cX1_at 3 (some .int)] ++ wsX10)
def wsX1_setFigure : List Cond := .code yX1_setFigure cX1_setFigure 4 (some .int) :: ([.fieldLink RX1 19 "FiguredBassModel" "thrown" "I", .fieldLink RX1 13 "FiguredBassModel" "figures" "[I", .methodLink RX1 124 yX1_isChord, .instanceMethod yX1_isChord, .selects RX1 yX1_isChord yX1_isChord, .initialized RX1, .code yX1_isChord cX1_isChord 2 (some .boolean), .fieldLink RX1 23 "FiguredBassModel" "chords" "I", .methodLink RX1 26 yX1_isIn, .static yX1_isIn, .code yX1_isIn cX1_isIn 3 (some .boolean), .methodLink RX1 121 yX1_no, .instanceMethod yX1_no, .selects RX1 yX1_no yX1_no, .code yX1_no cX1_no 2 (some .int)] ++ wsX10)
def wsX1_put : List Cond := .code yX1_put cX1_put 5 (some .int) :: ([.fieldLink RX1 19 "FiguredBassModel" "thrown" "I", .fieldLink RX1 9 "FiguredBassModel" "notes" "[I", .methodLink RX1 124 yX1_isChord, .instanceMethod yX1_isChord, .selects RX1 yX1_isChord yX1_isChord, .initialized RX1, .code yX1_isChord cX1_isChord 2 (some .boolean), .fieldLink RX1 23 "FiguredBassModel" "chords" "I", .methodLink RX1 26 yX1_isIn, .static yX1_isIn, .code yX1_isIn cX1_isIn 3 (some .boolean), .methodLink RX1 121 yX1_no, .instanceMethod yX1_no, .selects RX1 yX1_no yX1_no, .code yX1_no cX1_no 2 (some .int), .methodLink RX1 117 yX1_isOf, .static yX1_isOf, .code yX1_isOf cX1_isOf 2 (some .boolean), .fieldLink RX1 30 "FiguredBassModel" "LOW" "[I", .fieldLink RX1 33 "FiguredBassModel" "HIGH" "[I", .methodLink RX1 46 yX1_at, .instanceMethod yX1_at, .selects RX1 yX1_at yX1_at, .code yX1_at cX1_at 3 (some .int)] ++ wsX10)
def wsX1_drop : List Cond := .code yX1_drop cX1_drop 1 (some .int) :: ([.fieldLink RX1 19 "FiguredBassModel" "thrown" "I", .fieldLink RX1 23 "FiguredBassModel" "chords" "I", .methodLink RX1 121 yX1_no, .instanceMethod yX1_no, .selects RX1 yX1_no yX1_no, .initialized RX1, .code yX1_no cX1_no 2 (some .int)] ++ wsX10)
def wsX1_setKey : List Cond := .code yX1_setKey cX1_setKey 3 (some .boolean) :: ([.fieldLink RX1 19 "FiguredBassModel" "thrown" "I", .fieldLink RX1 36 "FiguredBassModel" "isMinor" "Z"] ++ wsX10)
def wsX1_setWeight : List Cond := .code yX1_setWeight cX1_setWeight 4 (some .int) :: ([.fieldLink RX1 19 "FiguredBassModel" "thrown" "I", .fieldLink RX1 16 "FiguredBassModel" "weights" "[I", .methodLink RX1 26 yX1_isIn, .static yX1_isIn, .initialized RX1, .code yX1_isIn cX1_isIn 3 (some .boolean), .methodLink RX1 121 yX1_no, .instanceMethod yX1_no, .selects RX1 yX1_no yX1_no, .code yX1_no cX1_no 2 (some .int)] ++ wsX10)
def wsX1_lead_r1 : List Cond := [Cond.fieldLink RX1 19 "FiguredBassModel" "thrown" "I", Cond.methodLink RX1 124 yX1_isChord, Cond.instanceMethod yX1_isChord, Cond.selects RX1 yX1_isChord yX1_isChord, Cond.initialized RX1, Cond.code yX1_isChord cX1_isChord 2 (some .boolean), Cond.fieldLink RX1 23 "FiguredBassModel" "chords" "I", Cond.methodLink RX1 26 yX1_isIn, Cond.static yX1_isIn, Cond.code yX1_isIn cX1_isIn 3 (some .boolean), Cond.methodLink RX1 121 yX1_no, Cond.instanceMethod yX1_no, Cond.selects RX1 yX1_no yX1_no, Cond.code yX1_no cX1_no 2 (some .int), Cond.methodLink RX1 127 yX1_isLed, Cond.instanceMethod yX1_isLed, Cond.selects RX1 yX1_isLed yX1_isLed, Cond.code yX1_isLed cX1_isLed 3 (some .boolean), Cond.methodLink RX1 113 yX1_led, Cond.instanceMethod yX1_led, Cond.selects RX1 yX1_led yX1_led, Cond.code yX1_led cX1_led 8 (some (.array .int)), Cond.arrayClass .int, Cond.fieldLink RX1 30 "FiguredBassModel" "LOW" "[I"]
def wsX1_lead_r2 : List Cond := [Cond.fieldLink RX1 33 "FiguredBassModel" "HIGH" "[I", Cond.fieldLink RX1 13 "FiguredBassModel" "figures" "[I", Cond.methodLink RX1 103 Lib.Math.max.name, Cond.static Lib.Math.max.name, Cond.initialized "java/lang/Math", Cond.code Lib.Math.max.name Lib.Math.max.code 2 (some .int), Cond.methodLink RX1 46 yX1_at, Cond.instanceMethod yX1_at, Cond.selects RX1 yX1_at yX1_at, Cond.code yX1_at cX1_at 3 (some .int), Cond.fieldLink RX1 9 "FiguredBassModel" "notes" "[I", Cond.methodLink RX1 100 yX1_belongs, Cond.static yX1_belongs, Cond.code yX1_belongs cX1_belongs 3 (some .boolean), Cond.fieldLink RX1 50 "FiguredBassModel" "STEPS" "[I", Cond.methodLink RX1 53 yX1_step, Cond.static yX1_step, Cond.code yX1_step cX1_step 2 (some .int), Cond.methodLink RX1 106 yX1_let, Cond.instanceMethod yX1_let, Cond.selects RX1 yX1_let yX1_let, Cond.code yX1_let cX1_let 5 none, Cond.methodLink RX1 94 yX1_isRight, Cond.instanceMethod yX1_isRight]
def wsX1_lead_r3 : List Cond := [Cond.selects RX1 yX1_isRight yX1_isRight, Cond.code yX1_isRight cX1_isRight 5 (some .boolean), Cond.methodLink RX1 56 yX1_isSet, Cond.instanceMethod yX1_isSet, Cond.selects RX1 yX1_isSet yX1_isSet, Cond.code yX1_isSet cX1_isSet 2 (some .boolean), Cond.methodLink RX1 110 yX1_cost, Cond.instanceMethod yX1_cost, Cond.selects RX1 yX1_cost yX1_cost, Cond.code yX1_cost cX1_cost 4 (some .int), Cond.fieldLink RX1 16 "FiguredBassModel" "weights" "[I", Cond.methodLink RX1 91 yX1_steps, Cond.instanceMethod yX1_steps, Cond.selects RX1 yX1_steps yX1_steps, Cond.code yX1_steps cX1_steps 4 (some .int), Cond.methodLink RX1 73 Lib.Math.abs.name, Cond.static Lib.Math.abs.name, Cond.code Lib.Math.abs.name Lib.Math.abs.code 1 (some .int), Cond.methodLink RX1 78 yX1_isPair, Cond.instanceMethod yX1_isPair, Cond.selects RX1 yX1_isPair yX1_isPair, Cond.code yX1_isPair cX1_isPair 2 (some .boolean), Cond.methodLink RX1 64 yX1_goes, Cond.instanceMethod yX1_goes]
def wsX1_lead_r4 : List Cond := [Cond.selects RX1 yX1_goes yX1_goes, Cond.code yX1_goes cX1_goes 3 (some .int), Cond.methodLink RX1 97 yX1_faultsOf, Cond.instanceMethod yX1_faultsOf, Cond.selects RX1 yX1_faultsOf yX1_faultsOf, Cond.code yX1_faultsOf cX1_faultsOf 5 (some .int), Cond.methodLink RX1 81 yX1_parallels, Cond.instanceMethod yX1_parallels, Cond.selects RX1 yX1_parallels yX1_parallels, Cond.code yX1_parallels cX1_parallels 6 (some .int), Cond.methodLink RX1 67 yX1_isFifth, Cond.instanceMethod yX1_isFifth, Cond.selects RX1 yX1_isFifth yX1_isFifth, Cond.code yX1_isFifth cX1_isFifth 5 (some .boolean), Cond.methodLink RX1 60 yX1_pitchOf, Cond.instanceMethod yX1_pitchOf, Cond.selects RX1 yX1_pitchOf yX1_pitchOf, Cond.code yX1_pitchOf cX1_pitchOf 2 (some .int), Cond.fieldLink RX1 36 "FiguredBassModel" "isMinor" "Z", Cond.fieldLink RX1 40 "FiguredBassModel" "MINOR" "[I", Cond.fieldLink RX1 43 "FiguredBassModel" "MAJOR" "[I", Cond.methodLink RX1 70 yX1_isOctave, Cond.instanceMethod yX1_isOctave, Cond.selects RX1 yX1_isOctave yX1_isOctave]
def wsX1_lead_r5 : List Cond := [Cond.code yX1_isOctave cX1_isOctave 4 (some .boolean), Cond.methodLink RX1 85 yX1_isHidden, Cond.instanceMethod yX1_isHidden, Cond.selects RX1 yX1_isHidden yX1_isHidden, Cond.code yX1_isHidden cX1_isHidden 4 (some .boolean), Cond.methodLink RX1 88 yX1_isFault, Cond.instanceMethod yX1_isFault, Cond.selects RX1 yX1_isFault yX1_isFault, Cond.code yX1_isFault cX1_isFault 6 (some .boolean)]
def wsX1_lead : List Cond := .code yX1_lead cX1_lead 2 (some .int) :: ((wsX1_lead_r1 ++ (wsX1_lead_r2 ++ (wsX1_lead_r3 ++ (wsX1_lead_r4 ++ wsX1_lead_r5)))) ++ wsX10)
def wsX1_leadAll_r1 : List Cond := [Cond.fieldLink RX1 19 "FiguredBassModel" "thrown" "I", Cond.fieldLink RX1 23 "FiguredBassModel" "chords" "I", Cond.methodLink RX1 127 yX1_isLed, Cond.instanceMethod yX1_isLed, Cond.selects RX1 yX1_isLed yX1_isLed, Cond.initialized RX1, Cond.code yX1_isLed cX1_isLed 3 (some .boolean), Cond.methodLink RX1 113 yX1_led, Cond.instanceMethod yX1_led, Cond.selects RX1 yX1_led yX1_led, Cond.code yX1_led cX1_led 8 (some (.array .int)), Cond.arrayClass .int, Cond.fieldLink RX1 30 "FiguredBassModel" "LOW" "[I", Cond.fieldLink RX1 33 "FiguredBassModel" "HIGH" "[I", Cond.fieldLink RX1 13 "FiguredBassModel" "figures" "[I", Cond.methodLink RX1 103 Lib.Math.max.name, Cond.static Lib.Math.max.name, Cond.initialized "java/lang/Math", Cond.code Lib.Math.max.name Lib.Math.max.code 2 (some .int), Cond.methodLink RX1 46 yX1_at, Cond.instanceMethod yX1_at, Cond.selects RX1 yX1_at yX1_at, Cond.code yX1_at cX1_at 3 (some .int), Cond.fieldLink RX1 9 "FiguredBassModel" "notes" "[I"]
def wsX1_leadAll_r2 : List Cond := [Cond.methodLink RX1 100 yX1_belongs, Cond.static yX1_belongs, Cond.code yX1_belongs cX1_belongs 3 (some .boolean), Cond.fieldLink RX1 50 "FiguredBassModel" "STEPS" "[I", Cond.methodLink RX1 53 yX1_step, Cond.static yX1_step, Cond.code yX1_step cX1_step 2 (some .int), Cond.methodLink RX1 106 yX1_let, Cond.instanceMethod yX1_let, Cond.selects RX1 yX1_let yX1_let, Cond.code yX1_let cX1_let 5 none, Cond.methodLink RX1 94 yX1_isRight, Cond.instanceMethod yX1_isRight, Cond.selects RX1 yX1_isRight yX1_isRight, Cond.code yX1_isRight cX1_isRight 5 (some .boolean), Cond.methodLink RX1 56 yX1_isSet, Cond.instanceMethod yX1_isSet, Cond.selects RX1 yX1_isSet yX1_isSet, Cond.code yX1_isSet cX1_isSet 2 (some .boolean), Cond.methodLink RX1 110 yX1_cost, Cond.instanceMethod yX1_cost, Cond.selects RX1 yX1_cost yX1_cost, Cond.code yX1_cost cX1_cost 4 (some .int), Cond.fieldLink RX1 16 "FiguredBassModel" "weights" "[I"]
def wsX1_leadAll_r3 : List Cond := [Cond.methodLink RX1 91 yX1_steps, Cond.instanceMethod yX1_steps, Cond.selects RX1 yX1_steps yX1_steps, Cond.code yX1_steps cX1_steps 4 (some .int), Cond.methodLink RX1 73 Lib.Math.abs.name, Cond.static Lib.Math.abs.name, Cond.code Lib.Math.abs.name Lib.Math.abs.code 1 (some .int), Cond.methodLink RX1 78 yX1_isPair, Cond.instanceMethod yX1_isPair, Cond.selects RX1 yX1_isPair yX1_isPair, Cond.code yX1_isPair cX1_isPair 2 (some .boolean), Cond.methodLink RX1 64 yX1_goes, Cond.instanceMethod yX1_goes, Cond.selects RX1 yX1_goes yX1_goes, Cond.code yX1_goes cX1_goes 3 (some .int), Cond.methodLink RX1 97 yX1_faultsOf, Cond.instanceMethod yX1_faultsOf, Cond.selects RX1 yX1_faultsOf yX1_faultsOf, Cond.code yX1_faultsOf cX1_faultsOf 5 (some .int), Cond.methodLink RX1 81 yX1_parallels, Cond.instanceMethod yX1_parallels, Cond.selects RX1 yX1_parallels yX1_parallels, Cond.code yX1_parallels cX1_parallels 6 (some .int), Cond.methodLink RX1 67 yX1_isFifth]
def wsX1_leadAll_r4 : List Cond := [Cond.instanceMethod yX1_isFifth, Cond.selects RX1 yX1_isFifth yX1_isFifth, Cond.code yX1_isFifth cX1_isFifth 5 (some .boolean), Cond.methodLink RX1 60 yX1_pitchOf, Cond.instanceMethod yX1_pitchOf, Cond.selects RX1 yX1_pitchOf yX1_pitchOf, Cond.code yX1_pitchOf cX1_pitchOf 2 (some .int), Cond.fieldLink RX1 36 "FiguredBassModel" "isMinor" "Z", Cond.fieldLink RX1 40 "FiguredBassModel" "MINOR" "[I", Cond.fieldLink RX1 43 "FiguredBassModel" "MAJOR" "[I", Cond.methodLink RX1 70 yX1_isOctave, Cond.instanceMethod yX1_isOctave, Cond.selects RX1 yX1_isOctave yX1_isOctave, Cond.code yX1_isOctave cX1_isOctave 4 (some .boolean), Cond.methodLink RX1 85 yX1_isHidden, Cond.instanceMethod yX1_isHidden, Cond.selects RX1 yX1_isHidden yX1_isHidden, Cond.code yX1_isHidden cX1_isHidden 4 (some .boolean), Cond.methodLink RX1 88 yX1_isFault, Cond.instanceMethod yX1_isFault, Cond.selects RX1 yX1_isFault yX1_isFault, Cond.code yX1_isFault cX1_isFault 6 (some .boolean)]
def wsX1_leadAll : List Cond := .code yX1_leadAll cX1_leadAll 3 (some .int) :: ((wsX1_leadAll_r1 ++ (wsX1_leadAll_r2 ++ (wsX1_leadAll_r3 ++ wsX1_leadAll_r4))) ++ wsX10)
def wsX1_note : List Cond := .code yX1_note cX1_note 3 (some .int) :: ([.fieldLink RX1 19 "FiguredBassModel" "thrown" "I", .methodLink RX1 124 yX1_isChord, .instanceMethod yX1_isChord, .selects RX1 yX1_isChord yX1_isChord, .initialized RX1, .code yX1_isChord cX1_isChord 2 (some .boolean), .fieldLink RX1 23 "FiguredBassModel" "chords" "I", .methodLink RX1 26 yX1_isIn, .static yX1_isIn, .code yX1_isIn cX1_isIn 3 (some .boolean), .methodLink RX1 46 yX1_at, .instanceMethod yX1_at, .selects RX1 yX1_at yX1_at, .code yX1_at cX1_at 3 (some .int), .fieldLink RX1 9 "FiguredBassModel" "notes" "[I", .methodLink RX1 121 yX1_no, .instanceMethod yX1_no, .selects RX1 yX1_no yX1_no, .code yX1_no cX1_no 2 (some .int)] ++ wsX10)
def wsX1_chordTold_r1 : List Cond := [Cond.fieldLink RX1 13 "FiguredBassModel" "figures" "[I", Cond.methodLink RX1 46 yX1_at, Cond.instanceMethod yX1_at, Cond.selects RX1 yX1_at yX1_at, Cond.initialized RX1, Cond.code yX1_at cX1_at 3 (some .int), Cond.fieldLink RX1 9 "FiguredBassModel" "notes" "[I", Cond.methodLink RX1 56 yX1_isSet, Cond.instanceMethod yX1_isSet, Cond.selects RX1 yX1_isSet yX1_isSet, Cond.code yX1_isSet cX1_isSet 2 (some .boolean), Cond.methodLink RX1 94 yX1_isRight, Cond.instanceMethod yX1_isRight, Cond.selects RX1 yX1_isRight yX1_isRight, Cond.code yX1_isRight cX1_isRight 5 (some .boolean), Cond.fieldLink RX1 50 "FiguredBassModel" "STEPS" "[I", Cond.methodLink RX1 53 yX1_step, Cond.static yX1_step, Cond.code yX1_step cX1_step 2 (some .int), Cond.methodLink RX1 91 yX1_steps, Cond.instanceMethod yX1_steps, Cond.selects RX1 yX1_steps yX1_steps, Cond.code yX1_steps cX1_steps 4 (some .int), Cond.methodLink RX1 73 Lib.Math.abs.name]
def wsX1_chordTold_r2 : List Cond := [Cond.static Lib.Math.abs.name, Cond.initialized "java/lang/Math", Cond.code Lib.Math.abs.name Lib.Math.abs.code 1 (some .int), Cond.methodLink RX1 78 yX1_isPair, Cond.instanceMethod yX1_isPair, Cond.selects RX1 yX1_isPair yX1_isPair, Cond.code yX1_isPair cX1_isPair 2 (some .boolean), Cond.methodLink RX1 64 yX1_goes, Cond.instanceMethod yX1_goes, Cond.selects RX1 yX1_goes yX1_goes, Cond.code yX1_goes cX1_goes 3 (some .int), Cond.methodLink RX1 110 yX1_cost, Cond.instanceMethod yX1_cost, Cond.selects RX1 yX1_cost yX1_cost, Cond.code yX1_cost cX1_cost 4 (some .int), Cond.fieldLink RX1 16 "FiguredBassModel" "weights" "[I", Cond.methodLink RX1 97 yX1_faultsOf, Cond.instanceMethod yX1_faultsOf, Cond.selects RX1 yX1_faultsOf yX1_faultsOf, Cond.code yX1_faultsOf cX1_faultsOf 5 (some .int), Cond.methodLink RX1 81 yX1_parallels, Cond.instanceMethod yX1_parallels, Cond.selects RX1 yX1_parallels yX1_parallels, Cond.code yX1_parallels cX1_parallels 6 (some .int)]
def wsX1_chordTold_r3 : List Cond := [Cond.methodLink RX1 67 yX1_isFifth, Cond.instanceMethod yX1_isFifth, Cond.selects RX1 yX1_isFifth yX1_isFifth, Cond.code yX1_isFifth cX1_isFifth 5 (some .boolean), Cond.methodLink RX1 60 yX1_pitchOf, Cond.instanceMethod yX1_pitchOf, Cond.selects RX1 yX1_pitchOf yX1_pitchOf, Cond.code yX1_pitchOf cX1_pitchOf 2 (some .int), Cond.fieldLink RX1 36 "FiguredBassModel" "isMinor" "Z", Cond.fieldLink RX1 40 "FiguredBassModel" "MINOR" "[I", Cond.fieldLink RX1 43 "FiguredBassModel" "MAJOR" "[I", Cond.methodLink RX1 70 yX1_isOctave, Cond.instanceMethod yX1_isOctave, Cond.selects RX1 yX1_isOctave yX1_isOctave, Cond.code yX1_isOctave cX1_isOctave 4 (some .boolean), Cond.methodLink RX1 85 yX1_isHidden, Cond.instanceMethod yX1_isHidden, Cond.selects RX1 yX1_isHidden yX1_isHidden, Cond.code yX1_isHidden cX1_isHidden 4 (some .boolean), Cond.methodLink RX1 88 yX1_isFault, Cond.instanceMethod yX1_isFault, Cond.selects RX1 yX1_isFault yX1_isFault, Cond.code yX1_isFault cX1_isFault 6 (some .boolean)]
def wsX1_chordTold : List Cond := .code yX1_chordTold cX1_chordTold 3 (some .int) :: ((wsX1_chordTold_r1 ++ (wsX1_chordTold_r2 ++ wsX1_chordTold_r3)) ++ wsX10)
def wsX1_told_r1 : List Cond := [Cond.fieldLink RX1 19 "FiguredBassModel" "thrown" "I", Cond.methodLink RX1 124 yX1_isChord, Cond.instanceMethod yX1_isChord, Cond.selects RX1 yX1_isChord yX1_isChord, Cond.initialized RX1, Cond.code yX1_isChord cX1_isChord 2 (some .boolean), Cond.fieldLink RX1 23 "FiguredBassModel" "chords" "I", Cond.methodLink RX1 26 yX1_isIn, Cond.static yX1_isIn, Cond.code yX1_isIn cX1_isIn 3 (some .boolean), Cond.methodLink RX1 130 yX1_chordTold, Cond.instanceMethod yX1_chordTold, Cond.selects RX1 yX1_chordTold yX1_chordTold, Cond.code yX1_chordTold cX1_chordTold 3 (some .int), Cond.fieldLink RX1 13 "FiguredBassModel" "figures" "[I", Cond.methodLink RX1 46 yX1_at, Cond.instanceMethod yX1_at, Cond.selects RX1 yX1_at yX1_at, Cond.code yX1_at cX1_at 3 (some .int), Cond.fieldLink RX1 9 "FiguredBassModel" "notes" "[I", Cond.methodLink RX1 56 yX1_isSet, Cond.instanceMethod yX1_isSet, Cond.selects RX1 yX1_isSet yX1_isSet, Cond.code yX1_isSet cX1_isSet 2 (some .boolean)]
def wsX1_told_r2 : List Cond := [Cond.methodLink RX1 94 yX1_isRight, Cond.instanceMethod yX1_isRight, Cond.selects RX1 yX1_isRight yX1_isRight, Cond.code yX1_isRight cX1_isRight 5 (some .boolean), Cond.fieldLink RX1 50 "FiguredBassModel" "STEPS" "[I", Cond.methodLink RX1 53 yX1_step, Cond.static yX1_step, Cond.code yX1_step cX1_step 2 (some .int), Cond.methodLink RX1 91 yX1_steps, Cond.instanceMethod yX1_steps, Cond.selects RX1 yX1_steps yX1_steps, Cond.code yX1_steps cX1_steps 4 (some .int), Cond.methodLink RX1 73 Lib.Math.abs.name, Cond.static Lib.Math.abs.name, Cond.initialized "java/lang/Math", Cond.code Lib.Math.abs.name Lib.Math.abs.code 1 (some .int), Cond.methodLink RX1 78 yX1_isPair, Cond.instanceMethod yX1_isPair, Cond.selects RX1 yX1_isPair yX1_isPair, Cond.code yX1_isPair cX1_isPair 2 (some .boolean), Cond.methodLink RX1 64 yX1_goes, Cond.instanceMethod yX1_goes, Cond.selects RX1 yX1_goes yX1_goes, Cond.code yX1_goes cX1_goes 3 (some .int)]
def wsX1_told_r3 : List Cond := [Cond.methodLink RX1 110 yX1_cost, Cond.instanceMethod yX1_cost, Cond.selects RX1 yX1_cost yX1_cost, Cond.code yX1_cost cX1_cost 4 (some .int), Cond.fieldLink RX1 16 "FiguredBassModel" "weights" "[I", Cond.methodLink RX1 97 yX1_faultsOf, Cond.instanceMethod yX1_faultsOf, Cond.selects RX1 yX1_faultsOf yX1_faultsOf, Cond.code yX1_faultsOf cX1_faultsOf 5 (some .int), Cond.methodLink RX1 81 yX1_parallels, Cond.instanceMethod yX1_parallels, Cond.selects RX1 yX1_parallels yX1_parallels, Cond.code yX1_parallels cX1_parallels 6 (some .int), Cond.methodLink RX1 67 yX1_isFifth, Cond.instanceMethod yX1_isFifth, Cond.selects RX1 yX1_isFifth yX1_isFifth, Cond.code yX1_isFifth cX1_isFifth 5 (some .boolean), Cond.methodLink RX1 60 yX1_pitchOf, Cond.instanceMethod yX1_pitchOf, Cond.selects RX1 yX1_pitchOf yX1_pitchOf, Cond.code yX1_pitchOf cX1_pitchOf 2 (some .int), Cond.fieldLink RX1 36 "FiguredBassModel" "isMinor" "Z", Cond.fieldLink RX1 40 "FiguredBassModel" "MINOR" "[I", Cond.fieldLink RX1 43 "FiguredBassModel" "MAJOR" "[I"]
def wsX1_told_r4 : List Cond := [Cond.methodLink RX1 70 yX1_isOctave, Cond.instanceMethod yX1_isOctave, Cond.selects RX1 yX1_isOctave yX1_isOctave, Cond.code yX1_isOctave cX1_isOctave 4 (some .boolean), Cond.methodLink RX1 85 yX1_isHidden, Cond.instanceMethod yX1_isHidden, Cond.selects RX1 yX1_isHidden yX1_isHidden, Cond.code yX1_isHidden cX1_isHidden 4 (some .boolean), Cond.methodLink RX1 88 yX1_isFault, Cond.instanceMethod yX1_isFault, Cond.selects RX1 yX1_isFault yX1_isFault, Cond.code yX1_isFault cX1_isFault 6 (some .boolean), Cond.methodLink RX1 121 yX1_no, Cond.instanceMethod yX1_no, Cond.selects RX1 yX1_no yX1_no, Cond.code yX1_no cX1_no 2 (some .int)]
def wsX1_told : List Cond := .code yX1_told cX1_told 3 (some .int) :: ((wsX1_told_r1 ++ (wsX1_told_r2 ++ (wsX1_told_r3 ++ wsX1_told_r4))) ++ wsX10)
def wsX1_faults_r1 : List Cond := [Cond.fieldLink RX1 19 "FiguredBassModel" "thrown" "I", Cond.methodLink RX1 124 yX1_isChord, Cond.instanceMethod yX1_isChord, Cond.selects RX1 yX1_isChord yX1_isChord, Cond.initialized RX1, Cond.code yX1_isChord cX1_isChord 2 (some .boolean), Cond.fieldLink RX1 23 "FiguredBassModel" "chords" "I", Cond.methodLink RX1 26 yX1_isIn, Cond.static yX1_isIn, Cond.code yX1_isIn cX1_isIn 3 (some .boolean), Cond.methodLink RX1 97 yX1_faultsOf, Cond.instanceMethod yX1_faultsOf, Cond.selects RX1 yX1_faultsOf yX1_faultsOf, Cond.code yX1_faultsOf cX1_faultsOf 5 (some .int), Cond.methodLink RX1 78 yX1_isPair, Cond.instanceMethod yX1_isPair, Cond.selects RX1 yX1_isPair yX1_isPair, Cond.code yX1_isPair cX1_isPair 2 (some .boolean), Cond.methodLink RX1 56 yX1_isSet, Cond.instanceMethod yX1_isSet, Cond.selects RX1 yX1_isSet yX1_isSet, Cond.code yX1_isSet cX1_isSet 2 (some .boolean), Cond.methodLink RX1 46 yX1_at, Cond.instanceMethod yX1_at]
def wsX1_faults_r2 : List Cond := [Cond.selects RX1 yX1_at yX1_at, Cond.code yX1_at cX1_at 3 (some .int), Cond.fieldLink RX1 9 "FiguredBassModel" "notes" "[I", Cond.methodLink RX1 81 yX1_parallels, Cond.instanceMethod yX1_parallels, Cond.selects RX1 yX1_parallels yX1_parallels, Cond.code yX1_parallels cX1_parallels 6 (some .int), Cond.methodLink RX1 64 yX1_goes, Cond.instanceMethod yX1_goes, Cond.selects RX1 yX1_goes yX1_goes, Cond.code yX1_goes cX1_goes 3 (some .int), Cond.methodLink RX1 67 yX1_isFifth, Cond.instanceMethod yX1_isFifth, Cond.selects RX1 yX1_isFifth yX1_isFifth, Cond.code yX1_isFifth cX1_isFifth 5 (some .boolean), Cond.methodLink RX1 60 yX1_pitchOf, Cond.instanceMethod yX1_pitchOf, Cond.selects RX1 yX1_pitchOf yX1_pitchOf, Cond.code yX1_pitchOf cX1_pitchOf 2 (some .int), Cond.fieldLink RX1 36 "FiguredBassModel" "isMinor" "Z", Cond.fieldLink RX1 40 "FiguredBassModel" "MINOR" "[I", Cond.fieldLink RX1 43 "FiguredBassModel" "MAJOR" "[I", Cond.methodLink RX1 70 yX1_isOctave, Cond.instanceMethod yX1_isOctave]
def wsX1_faults_r3 : List Cond := [Cond.selects RX1 yX1_isOctave yX1_isOctave, Cond.code yX1_isOctave cX1_isOctave 4 (some .boolean), Cond.methodLink RX1 85 yX1_isHidden, Cond.instanceMethod yX1_isHidden, Cond.selects RX1 yX1_isHidden yX1_isHidden, Cond.code yX1_isHidden cX1_isHidden 4 (some .boolean), Cond.methodLink RX1 73 Lib.Math.abs.name, Cond.static Lib.Math.abs.name, Cond.initialized "java/lang/Math", Cond.code Lib.Math.abs.name Lib.Math.abs.code 1 (some .int), Cond.methodLink RX1 88 yX1_isFault, Cond.instanceMethod yX1_isFault, Cond.selects RX1 yX1_isFault yX1_isFault, Cond.code yX1_isFault cX1_isFault 6 (some .boolean), Cond.fieldLink RX1 13 "FiguredBassModel" "figures" "[I", Cond.methodLink RX1 53 yX1_step, Cond.static yX1_step, Cond.code yX1_step cX1_step 2 (some .int), Cond.methodLink RX1 121 yX1_no, Cond.instanceMethod yX1_no, Cond.selects RX1 yX1_no yX1_no, Cond.code yX1_no cX1_no 2 (some .int)]
def wsX1_faults : List Cond := .code yX1_faults cX1_faults 3 (some .int) :: ((wsX1_faults_r1 ++ (wsX1_faults_r2 ++ wsX1_faults_r3)) ++ wsX10)
def wsX1_all_r1 : List Cond := [Cond.fieldLink RX1 23 "FiguredBassModel" "chords" "I", Cond.methodLink RX1 130 yX1_chordTold, Cond.instanceMethod yX1_chordTold, Cond.selects RX1 yX1_chordTold yX1_chordTold, Cond.initialized RX1, Cond.code yX1_chordTold cX1_chordTold 3 (some .int), Cond.fieldLink RX1 13 "FiguredBassModel" "figures" "[I", Cond.methodLink RX1 46 yX1_at, Cond.instanceMethod yX1_at, Cond.selects RX1 yX1_at yX1_at, Cond.code yX1_at cX1_at 3 (some .int), Cond.fieldLink RX1 9 "FiguredBassModel" "notes" "[I", Cond.methodLink RX1 56 yX1_isSet, Cond.instanceMethod yX1_isSet, Cond.selects RX1 yX1_isSet yX1_isSet, Cond.code yX1_isSet cX1_isSet 2 (some .boolean), Cond.methodLink RX1 94 yX1_isRight, Cond.instanceMethod yX1_isRight, Cond.selects RX1 yX1_isRight yX1_isRight, Cond.code yX1_isRight cX1_isRight 5 (some .boolean), Cond.fieldLink RX1 50 "FiguredBassModel" "STEPS" "[I", Cond.methodLink RX1 53 yX1_step, Cond.static yX1_step, Cond.code yX1_step cX1_step 2 (some .int)]
def wsX1_all_r2 : List Cond := [Cond.methodLink RX1 91 yX1_steps, Cond.instanceMethod yX1_steps, Cond.selects RX1 yX1_steps yX1_steps, Cond.code yX1_steps cX1_steps 4 (some .int), Cond.methodLink RX1 73 Lib.Math.abs.name, Cond.static Lib.Math.abs.name, Cond.initialized "java/lang/Math", Cond.code Lib.Math.abs.name Lib.Math.abs.code 1 (some .int), Cond.methodLink RX1 78 yX1_isPair, Cond.instanceMethod yX1_isPair, Cond.selects RX1 yX1_isPair yX1_isPair, Cond.code yX1_isPair cX1_isPair 2 (some .boolean), Cond.methodLink RX1 64 yX1_goes, Cond.instanceMethod yX1_goes, Cond.selects RX1 yX1_goes yX1_goes, Cond.code yX1_goes cX1_goes 3 (some .int), Cond.methodLink RX1 110 yX1_cost, Cond.instanceMethod yX1_cost, Cond.selects RX1 yX1_cost yX1_cost, Cond.code yX1_cost cX1_cost 4 (some .int), Cond.fieldLink RX1 16 "FiguredBassModel" "weights" "[I", Cond.methodLink RX1 97 yX1_faultsOf, Cond.instanceMethod yX1_faultsOf, Cond.selects RX1 yX1_faultsOf yX1_faultsOf]
def wsX1_all_r3 : List Cond := [Cond.code yX1_faultsOf cX1_faultsOf 5 (some .int), Cond.methodLink RX1 81 yX1_parallels, Cond.instanceMethod yX1_parallels, Cond.selects RX1 yX1_parallels yX1_parallels, Cond.code yX1_parallels cX1_parallels 6 (some .int), Cond.methodLink RX1 67 yX1_isFifth, Cond.instanceMethod yX1_isFifth, Cond.selects RX1 yX1_isFifth yX1_isFifth, Cond.code yX1_isFifth cX1_isFifth 5 (some .boolean), Cond.methodLink RX1 60 yX1_pitchOf, Cond.instanceMethod yX1_pitchOf, Cond.selects RX1 yX1_pitchOf yX1_pitchOf, Cond.code yX1_pitchOf cX1_pitchOf 2 (some .int), Cond.fieldLink RX1 36 "FiguredBassModel" "isMinor" "Z", Cond.fieldLink RX1 40 "FiguredBassModel" "MINOR" "[I", Cond.fieldLink RX1 43 "FiguredBassModel" "MAJOR" "[I", Cond.methodLink RX1 70 yX1_isOctave, Cond.instanceMethod yX1_isOctave, Cond.selects RX1 yX1_isOctave yX1_isOctave, Cond.code yX1_isOctave cX1_isOctave 4 (some .boolean), Cond.methodLink RX1 85 yX1_isHidden, Cond.instanceMethod yX1_isHidden, Cond.selects RX1 yX1_isHidden yX1_isHidden, Cond.code yX1_isHidden cX1_isHidden 4 (some .boolean)]
def wsX1_all_r4 : List Cond := [Cond.methodLink RX1 88 yX1_isFault, Cond.instanceMethod yX1_isFault, Cond.selects RX1 yX1_isFault yX1_isFault, Cond.code yX1_isFault cX1_isFault 6 (some .boolean)]
def wsX1_all : List Cond := .code yX1_all cX1_all 4 (some .int) :: ((wsX1_all_r1 ++ (wsX1_all_r2 ++ (wsX1_all_r3 ++ wsX1_all_r4))) ++ wsX10)
def wsX1_allFaults_r1 : List Cond := [Cond.fieldLink RX1 23 "FiguredBassModel" "chords" "I", Cond.methodLink RX1 97 yX1_faultsOf, Cond.instanceMethod yX1_faultsOf, Cond.selects RX1 yX1_faultsOf yX1_faultsOf, Cond.initialized RX1, Cond.code yX1_faultsOf cX1_faultsOf 5 (some .int), Cond.methodLink RX1 78 yX1_isPair, Cond.instanceMethod yX1_isPair, Cond.selects RX1 yX1_isPair yX1_isPair, Cond.code yX1_isPair cX1_isPair 2 (some .boolean), Cond.methodLink RX1 56 yX1_isSet, Cond.instanceMethod yX1_isSet, Cond.selects RX1 yX1_isSet yX1_isSet, Cond.code yX1_isSet cX1_isSet 2 (some .boolean), Cond.methodLink RX1 46 yX1_at, Cond.instanceMethod yX1_at, Cond.selects RX1 yX1_at yX1_at, Cond.code yX1_at cX1_at 3 (some .int), Cond.fieldLink RX1 9 "FiguredBassModel" "notes" "[I", Cond.methodLink RX1 81 yX1_parallels, Cond.instanceMethod yX1_parallels, Cond.selects RX1 yX1_parallels yX1_parallels, Cond.code yX1_parallels cX1_parallels 6 (some .int), Cond.methodLink RX1 64 yX1_goes]
def wsX1_allFaults_r2 : List Cond := [Cond.instanceMethod yX1_goes, Cond.selects RX1 yX1_goes yX1_goes, Cond.code yX1_goes cX1_goes 3 (some .int), Cond.methodLink RX1 67 yX1_isFifth, Cond.instanceMethod yX1_isFifth, Cond.selects RX1 yX1_isFifth yX1_isFifth, Cond.code yX1_isFifth cX1_isFifth 5 (some .boolean), Cond.methodLink RX1 60 yX1_pitchOf, Cond.instanceMethod yX1_pitchOf, Cond.selects RX1 yX1_pitchOf yX1_pitchOf, Cond.code yX1_pitchOf cX1_pitchOf 2 (some .int), Cond.fieldLink RX1 36 "FiguredBassModel" "isMinor" "Z", Cond.fieldLink RX1 40 "FiguredBassModel" "MINOR" "[I", Cond.fieldLink RX1 43 "FiguredBassModel" "MAJOR" "[I", Cond.methodLink RX1 70 yX1_isOctave, Cond.instanceMethod yX1_isOctave, Cond.selects RX1 yX1_isOctave yX1_isOctave, Cond.code yX1_isOctave cX1_isOctave 4 (some .boolean), Cond.methodLink RX1 85 yX1_isHidden, Cond.instanceMethod yX1_isHidden, Cond.selects RX1 yX1_isHidden yX1_isHidden, Cond.code yX1_isHidden cX1_isHidden 4 (some .boolean), Cond.methodLink RX1 73 Lib.Math.abs.name, Cond.static Lib.Math.abs.name]
def wsX1_allFaults_r3 : List Cond := [Cond.initialized "java/lang/Math", Cond.code Lib.Math.abs.name Lib.Math.abs.code 1 (some .int), Cond.methodLink RX1 88 yX1_isFault, Cond.instanceMethod yX1_isFault, Cond.selects RX1 yX1_isFault yX1_isFault, Cond.code yX1_isFault cX1_isFault 6 (some .boolean), Cond.fieldLink RX1 13 "FiguredBassModel" "figures" "[I", Cond.methodLink RX1 53 yX1_step, Cond.static yX1_step, Cond.code yX1_step cX1_step 2 (some .int)]
def wsX1_allFaults : List Cond := .code yX1_allFaults cX1_allFaults 3 (some .int) :: ((wsX1_allFaults_r1 ++ (wsX1_allFaults_r2 ++ wsX1_allFaults_r3)) ++ wsX10)
def wsX1_counted_r1 : List Cond := [Cond.fieldLink RX1 23 "FiguredBassModel" "chords" "I", Cond.fieldLink RX1 36 "FiguredBassModel" "isMinor" "Z", Cond.methodLink RX1 133 yX1_all, Cond.instanceMethod yX1_all, Cond.selects RX1 yX1_all yX1_all, Cond.initialized RX1, Cond.code yX1_all cX1_all 4 (some .int), Cond.methodLink RX1 130 yX1_chordTold, Cond.instanceMethod yX1_chordTold, Cond.selects RX1 yX1_chordTold yX1_chordTold, Cond.code yX1_chordTold cX1_chordTold 3 (some .int), Cond.fieldLink RX1 13 "FiguredBassModel" "figures" "[I", Cond.methodLink RX1 46 yX1_at, Cond.instanceMethod yX1_at, Cond.selects RX1 yX1_at yX1_at, Cond.code yX1_at cX1_at 3 (some .int), Cond.fieldLink RX1 9 "FiguredBassModel" "notes" "[I", Cond.methodLink RX1 56 yX1_isSet, Cond.instanceMethod yX1_isSet, Cond.selects RX1 yX1_isSet yX1_isSet, Cond.code yX1_isSet cX1_isSet 2 (some .boolean), Cond.methodLink RX1 94 yX1_isRight, Cond.instanceMethod yX1_isRight, Cond.selects RX1 yX1_isRight yX1_isRight]
def wsX1_counted_r2 : List Cond := [Cond.code yX1_isRight cX1_isRight 5 (some .boolean), Cond.fieldLink RX1 50 "FiguredBassModel" "STEPS" "[I", Cond.methodLink RX1 53 yX1_step, Cond.static yX1_step, Cond.code yX1_step cX1_step 2 (some .int), Cond.methodLink RX1 91 yX1_steps, Cond.instanceMethod yX1_steps, Cond.selects RX1 yX1_steps yX1_steps, Cond.code yX1_steps cX1_steps 4 (some .int), Cond.methodLink RX1 73 Lib.Math.abs.name, Cond.static Lib.Math.abs.name, Cond.initialized "java/lang/Math", Cond.code Lib.Math.abs.name Lib.Math.abs.code 1 (some .int), Cond.methodLink RX1 78 yX1_isPair, Cond.instanceMethod yX1_isPair, Cond.selects RX1 yX1_isPair yX1_isPair, Cond.code yX1_isPair cX1_isPair 2 (some .boolean), Cond.methodLink RX1 64 yX1_goes, Cond.instanceMethod yX1_goes, Cond.selects RX1 yX1_goes yX1_goes, Cond.code yX1_goes cX1_goes 3 (some .int), Cond.methodLink RX1 110 yX1_cost, Cond.instanceMethod yX1_cost, Cond.selects RX1 yX1_cost yX1_cost]
def wsX1_counted_r3 : List Cond := [Cond.code yX1_cost cX1_cost 4 (some .int), Cond.fieldLink RX1 16 "FiguredBassModel" "weights" "[I", Cond.methodLink RX1 97 yX1_faultsOf, Cond.instanceMethod yX1_faultsOf, Cond.selects RX1 yX1_faultsOf yX1_faultsOf, Cond.code yX1_faultsOf cX1_faultsOf 5 (some .int), Cond.methodLink RX1 81 yX1_parallels, Cond.instanceMethod yX1_parallels, Cond.selects RX1 yX1_parallels yX1_parallels, Cond.code yX1_parallels cX1_parallels 6 (some .int), Cond.methodLink RX1 67 yX1_isFifth, Cond.instanceMethod yX1_isFifth, Cond.selects RX1 yX1_isFifth yX1_isFifth, Cond.code yX1_isFifth cX1_isFifth 5 (some .boolean), Cond.methodLink RX1 60 yX1_pitchOf, Cond.instanceMethod yX1_pitchOf, Cond.selects RX1 yX1_pitchOf yX1_pitchOf, Cond.code yX1_pitchOf cX1_pitchOf 2 (some .int), Cond.fieldLink RX1 40 "FiguredBassModel" "MINOR" "[I", Cond.fieldLink RX1 43 "FiguredBassModel" "MAJOR" "[I", Cond.methodLink RX1 70 yX1_isOctave, Cond.instanceMethod yX1_isOctave, Cond.selects RX1 yX1_isOctave yX1_isOctave, Cond.code yX1_isOctave cX1_isOctave 4 (some .boolean)]
def wsX1_counted_r4 : List Cond := [Cond.methodLink RX1 85 yX1_isHidden, Cond.instanceMethod yX1_isHidden, Cond.selects RX1 yX1_isHidden yX1_isHidden, Cond.code yX1_isHidden cX1_isHidden 4 (some .boolean), Cond.methodLink RX1 88 yX1_isFault, Cond.instanceMethod yX1_isFault, Cond.selects RX1 yX1_isFault yX1_isFault, Cond.code yX1_isFault cX1_isFault 6 (some .boolean), Cond.methodLink RX1 136 yX1_allFaults, Cond.instanceMethod yX1_allFaults, Cond.selects RX1 yX1_allFaults yX1_allFaults, Cond.code yX1_allFaults cX1_allFaults 3 (some .int)]
def wsX1_counted : List Cond := .code yX1_counted cX1_counted 2 (some .int) :: ((wsX1_counted_r1 ++ (wsX1_counted_r2 ++ (wsX1_counted_r3 ++ wsX1_counted_r4))) ++ wsX10)
def wsX1_count_r1 : List Cond := [Cond.fieldLink RX1 19 "FiguredBassModel" "thrown" "I", Cond.methodLink RX1 26 yX1_isIn, Cond.static yX1_isIn, Cond.initialized RX1, Cond.code yX1_isIn cX1_isIn 3 (some .boolean), Cond.methodLink RX1 140 yX1_counted, Cond.instanceMethod yX1_counted, Cond.selects RX1 yX1_counted yX1_counted, Cond.code yX1_counted cX1_counted 2 (some .int), Cond.fieldLink RX1 23 "FiguredBassModel" "chords" "I", Cond.fieldLink RX1 36 "FiguredBassModel" "isMinor" "Z", Cond.methodLink RX1 133 yX1_all, Cond.instanceMethod yX1_all, Cond.selects RX1 yX1_all yX1_all, Cond.code yX1_all cX1_all 4 (some .int), Cond.methodLink RX1 130 yX1_chordTold, Cond.instanceMethod yX1_chordTold, Cond.selects RX1 yX1_chordTold yX1_chordTold, Cond.code yX1_chordTold cX1_chordTold 3 (some .int), Cond.fieldLink RX1 13 "FiguredBassModel" "figures" "[I", Cond.methodLink RX1 46 yX1_at, Cond.instanceMethod yX1_at, Cond.selects RX1 yX1_at yX1_at, Cond.code yX1_at cX1_at 3 (some .int)]
def wsX1_count_r2 : List Cond := [Cond.fieldLink RX1 9 "FiguredBassModel" "notes" "[I", Cond.methodLink RX1 56 yX1_isSet, Cond.instanceMethod yX1_isSet, Cond.selects RX1 yX1_isSet yX1_isSet, Cond.code yX1_isSet cX1_isSet 2 (some .boolean), Cond.methodLink RX1 94 yX1_isRight, Cond.instanceMethod yX1_isRight, Cond.selects RX1 yX1_isRight yX1_isRight, Cond.code yX1_isRight cX1_isRight 5 (some .boolean), Cond.fieldLink RX1 50 "FiguredBassModel" "STEPS" "[I", Cond.methodLink RX1 53 yX1_step, Cond.static yX1_step, Cond.code yX1_step cX1_step 2 (some .int), Cond.methodLink RX1 91 yX1_steps, Cond.instanceMethod yX1_steps, Cond.selects RX1 yX1_steps yX1_steps, Cond.code yX1_steps cX1_steps 4 (some .int), Cond.methodLink RX1 73 Lib.Math.abs.name, Cond.static Lib.Math.abs.name, Cond.initialized "java/lang/Math", Cond.code Lib.Math.abs.name Lib.Math.abs.code 1 (some .int), Cond.methodLink RX1 78 yX1_isPair, Cond.instanceMethod yX1_isPair, Cond.selects RX1 yX1_isPair yX1_isPair]
def wsX1_count_r3 : List Cond := [Cond.code yX1_isPair cX1_isPair 2 (some .boolean), Cond.methodLink RX1 64 yX1_goes, Cond.instanceMethod yX1_goes, Cond.selects RX1 yX1_goes yX1_goes, Cond.code yX1_goes cX1_goes 3 (some .int), Cond.methodLink RX1 110 yX1_cost, Cond.instanceMethod yX1_cost, Cond.selects RX1 yX1_cost yX1_cost, Cond.code yX1_cost cX1_cost 4 (some .int), Cond.fieldLink RX1 16 "FiguredBassModel" "weights" "[I", Cond.methodLink RX1 97 yX1_faultsOf, Cond.instanceMethod yX1_faultsOf, Cond.selects RX1 yX1_faultsOf yX1_faultsOf, Cond.code yX1_faultsOf cX1_faultsOf 5 (some .int), Cond.methodLink RX1 81 yX1_parallels, Cond.instanceMethod yX1_parallels, Cond.selects RX1 yX1_parallels yX1_parallels, Cond.code yX1_parallels cX1_parallels 6 (some .int), Cond.methodLink RX1 67 yX1_isFifth, Cond.instanceMethod yX1_isFifth, Cond.selects RX1 yX1_isFifth yX1_isFifth, Cond.code yX1_isFifth cX1_isFifth 5 (some .boolean), Cond.methodLink RX1 60 yX1_pitchOf, Cond.instanceMethod yX1_pitchOf]
def wsX1_count_r4 : List Cond := [Cond.selects RX1 yX1_pitchOf yX1_pitchOf, Cond.code yX1_pitchOf cX1_pitchOf 2 (some .int), Cond.fieldLink RX1 40 "FiguredBassModel" "MINOR" "[I", Cond.fieldLink RX1 43 "FiguredBassModel" "MAJOR" "[I", Cond.methodLink RX1 70 yX1_isOctave, Cond.instanceMethod yX1_isOctave, Cond.selects RX1 yX1_isOctave yX1_isOctave, Cond.code yX1_isOctave cX1_isOctave 4 (some .boolean), Cond.methodLink RX1 85 yX1_isHidden, Cond.instanceMethod yX1_isHidden, Cond.selects RX1 yX1_isHidden yX1_isHidden, Cond.code yX1_isHidden cX1_isHidden 4 (some .boolean), Cond.methodLink RX1 88 yX1_isFault, Cond.instanceMethod yX1_isFault, Cond.selects RX1 yX1_isFault yX1_isFault, Cond.code yX1_isFault cX1_isFault 6 (some .boolean), Cond.methodLink RX1 136 yX1_allFaults, Cond.instanceMethod yX1_allFaults, Cond.selects RX1 yX1_allFaults yX1_allFaults, Cond.code yX1_allFaults cX1_allFaults 3 (some .int), Cond.methodLink RX1 121 yX1_no, Cond.instanceMethod yX1_no, Cond.selects RX1 yX1_no yX1_no, Cond.code yX1_no cX1_no 2 (some .int)]
def wsX1_count : List Cond := .code yX1_count cX1_count 2 (some .int) :: ((wsX1_count_r1 ++ (wsX1_count_r2 ++ (wsX1_count_r3 ++ wsX1_count_r4))) ++ wsX10)
def wsX1_pitch : List Cond := .code yX1_pitch cX1_pitch 2 (some .int) :: ([.fieldLink RX1 19 "FiguredBassModel" "thrown" "I", .methodLink RX1 26 yX1_isIn, .static yX1_isIn, .initialized RX1, .code yX1_isIn cX1_isIn 3 (some .boolean), .methodLink RX1 60 yX1_pitchOf, .instanceMethod yX1_pitchOf, .selects RX1 yX1_pitchOf yX1_pitchOf, .code yX1_pitchOf cX1_pitchOf 2 (some .int), .fieldLink RX1 36 "FiguredBassModel" "isMinor" "Z", .fieldLink RX1 40 "FiguredBassModel" "MINOR" "[I", .fieldLink RX1 43 "FiguredBassModel" "MAJOR" "[I", .methodLink RX1 121 yX1_no, .instanceMethod yX1_no, .selects RX1 yX1_no yX1_no, .code yX1_no cX1_no 2 (some .int)] ++ wsX10)
def wsX1_fits_r1 : List Cond := [Cond.fieldLink RX1 19 "FiguredBassModel" "thrown" "I", Cond.fieldLink RX1 13 "FiguredBassModel" "figures" "[I", Cond.methodLink RX1 124 yX1_isChord, Cond.instanceMethod yX1_isChord, Cond.selects RX1 yX1_isChord yX1_isChord, Cond.initialized RX1, Cond.code yX1_isChord cX1_isChord 2 (some .boolean), Cond.fieldLink RX1 23 "FiguredBassModel" "chords" "I", Cond.methodLink RX1 26 yX1_isIn, Cond.static yX1_isIn, Cond.code yX1_isIn cX1_isIn 3 (some .boolean), Cond.methodLink RX1 121 yX1_no, Cond.instanceMethod yX1_no, Cond.selects RX1 yX1_no yX1_no, Cond.code yX1_no cX1_no 2 (some .int), Cond.methodLink RX1 117 yX1_isOf, Cond.static yX1_isOf, Cond.code yX1_isOf cX1_isOf 2 (some .boolean), Cond.fieldLink RX1 30 "FiguredBassModel" "LOW" "[I", Cond.fieldLink RX1 33 "FiguredBassModel" "HIGH" "[I", Cond.methodLink RX1 46 yX1_at, Cond.instanceMethod yX1_at, Cond.selects RX1 yX1_at yX1_at, Cond.code yX1_at cX1_at 3 (some .int)]
def wsX1_fits_r2 : List Cond := [Cond.fieldLink RX1 9 "FiguredBassModel" "notes" "[I", Cond.methodLink RX1 100 yX1_belongs, Cond.static yX1_belongs, Cond.code yX1_belongs cX1_belongs 3 (some .boolean), Cond.fieldLink RX1 50 "FiguredBassModel" "STEPS" "[I", Cond.methodLink RX1 53 yX1_step, Cond.static yX1_step, Cond.code yX1_step cX1_step 2 (some .int)]
def wsX1_fits : List Cond := .code yX1_fits cX1_fits 4 (some .boolean) :: ((wsX1_fits_r1 ++ wsX1_fits_r2) ++ wsX10)
def wsX1_ways_r1 : List Cond := [Cond.fieldLink RX1 19 "FiguredBassModel" "thrown" "I", Cond.methodLink RX1 124 yX1_isChord, Cond.instanceMethod yX1_isChord, Cond.selects RX1 yX1_isChord yX1_isChord, Cond.initialized RX1, Cond.code yX1_isChord cX1_isChord 2 (some .boolean), Cond.fieldLink RX1 23 "FiguredBassModel" "chords" "I", Cond.methodLink RX1 26 yX1_isIn, Cond.static yX1_isIn, Cond.code yX1_isIn cX1_isIn 3 (some .boolean), Cond.methodLink RX1 113 yX1_led, Cond.instanceMethod yX1_led, Cond.selects RX1 yX1_led yX1_led, Cond.code yX1_led cX1_led 8 (some (.array .int)), Cond.arrayClass .int, Cond.fieldLink RX1 30 "FiguredBassModel" "LOW" "[I", Cond.fieldLink RX1 33 "FiguredBassModel" "HIGH" "[I", Cond.fieldLink RX1 13 "FiguredBassModel" "figures" "[I", Cond.methodLink RX1 103 Lib.Math.max.name, Cond.static Lib.Math.max.name, Cond.initialized "java/lang/Math", Cond.code Lib.Math.max.name Lib.Math.max.code 2 (some .int), Cond.methodLink RX1 46 yX1_at, Cond.instanceMethod yX1_at]
def wsX1_ways_r2 : List Cond := [Cond.selects RX1 yX1_at yX1_at, Cond.code yX1_at cX1_at 3 (some .int), Cond.fieldLink RX1 9 "FiguredBassModel" "notes" "[I", Cond.methodLink RX1 100 yX1_belongs, Cond.static yX1_belongs, Cond.code yX1_belongs cX1_belongs 3 (some .boolean), Cond.fieldLink RX1 50 "FiguredBassModel" "STEPS" "[I", Cond.methodLink RX1 53 yX1_step, Cond.static yX1_step, Cond.code yX1_step cX1_step 2 (some .int), Cond.methodLink RX1 106 yX1_let, Cond.instanceMethod yX1_let, Cond.selects RX1 yX1_let yX1_let, Cond.code yX1_let cX1_let 5 none, Cond.methodLink RX1 94 yX1_isRight, Cond.instanceMethod yX1_isRight, Cond.selects RX1 yX1_isRight yX1_isRight, Cond.code yX1_isRight cX1_isRight 5 (some .boolean), Cond.methodLink RX1 56 yX1_isSet, Cond.instanceMethod yX1_isSet, Cond.selects RX1 yX1_isSet yX1_isSet, Cond.code yX1_isSet cX1_isSet 2 (some .boolean), Cond.methodLink RX1 110 yX1_cost, Cond.instanceMethod yX1_cost]
def wsX1_ways_r3 : List Cond := [Cond.selects RX1 yX1_cost yX1_cost, Cond.code yX1_cost cX1_cost 4 (some .int), Cond.fieldLink RX1 16 "FiguredBassModel" "weights" "[I", Cond.methodLink RX1 91 yX1_steps, Cond.instanceMethod yX1_steps, Cond.selects RX1 yX1_steps yX1_steps, Cond.code yX1_steps cX1_steps 4 (some .int), Cond.methodLink RX1 73 Lib.Math.abs.name, Cond.static Lib.Math.abs.name, Cond.code Lib.Math.abs.name Lib.Math.abs.code 1 (some .int), Cond.methodLink RX1 78 yX1_isPair, Cond.instanceMethod yX1_isPair, Cond.selects RX1 yX1_isPair yX1_isPair, Cond.code yX1_isPair cX1_isPair 2 (some .boolean), Cond.methodLink RX1 64 yX1_goes, Cond.instanceMethod yX1_goes, Cond.selects RX1 yX1_goes yX1_goes, Cond.code yX1_goes cX1_goes 3 (some .int), Cond.methodLink RX1 97 yX1_faultsOf, Cond.instanceMethod yX1_faultsOf, Cond.selects RX1 yX1_faultsOf yX1_faultsOf, Cond.code yX1_faultsOf cX1_faultsOf 5 (some .int), Cond.methodLink RX1 81 yX1_parallels, Cond.instanceMethod yX1_parallels]
def wsX1_ways_r4 : List Cond := [Cond.selects RX1 yX1_parallels yX1_parallels, Cond.code yX1_parallels cX1_parallels 6 (some .int), Cond.methodLink RX1 67 yX1_isFifth, Cond.instanceMethod yX1_isFifth, Cond.selects RX1 yX1_isFifth yX1_isFifth, Cond.code yX1_isFifth cX1_isFifth 5 (some .boolean), Cond.methodLink RX1 60 yX1_pitchOf, Cond.instanceMethod yX1_pitchOf, Cond.selects RX1 yX1_pitchOf yX1_pitchOf, Cond.code yX1_pitchOf cX1_pitchOf 2 (some .int), Cond.fieldLink RX1 36 "FiguredBassModel" "isMinor" "Z", Cond.fieldLink RX1 40 "FiguredBassModel" "MINOR" "[I", Cond.fieldLink RX1 43 "FiguredBassModel" "MAJOR" "[I", Cond.methodLink RX1 70 yX1_isOctave, Cond.instanceMethod yX1_isOctave, Cond.selects RX1 yX1_isOctave yX1_isOctave, Cond.code yX1_isOctave cX1_isOctave 4 (some .boolean), Cond.methodLink RX1 85 yX1_isHidden, Cond.instanceMethod yX1_isHidden, Cond.selects RX1 yX1_isHidden yX1_isHidden, Cond.code yX1_isHidden cX1_isHidden 4 (some .boolean), Cond.methodLink RX1 88 yX1_isFault, Cond.instanceMethod yX1_isFault, Cond.selects RX1 yX1_isFault yX1_isFault]
def wsX1_ways_r5 : List Cond := [Cond.code yX1_isFault cX1_isFault 6 (some .boolean), Cond.methodLink RX1 121 yX1_no, Cond.instanceMethod yX1_no, Cond.selects RX1 yX1_no yX1_no, Cond.code yX1_no cX1_no 2 (some .int)]
def wsX1_ways : List Cond := .code yX1_ways cX1_ways 2 (some .int) :: ((wsX1_ways_r1 ++ (wsX1_ways_r2 ++ (wsX1_ways_r3 ++ (wsX1_ways_r4 ++ wsX1_ways_r5)))) ++ wsX10)
def wsX1_would_r1 : List Cond := [Cond.fieldLink RX1 19 "FiguredBassModel" "thrown" "I", Cond.fieldLink RX1 9 "FiguredBassModel" "notes" "[I", Cond.methodLink RX1 124 yX1_isChord, Cond.instanceMethod yX1_isChord, Cond.selects RX1 yX1_isChord yX1_isChord, Cond.initialized RX1, Cond.code yX1_isChord cX1_isChord 2 (some .boolean), Cond.fieldLink RX1 23 "FiguredBassModel" "chords" "I", Cond.methodLink RX1 26 yX1_isIn, Cond.static yX1_isIn, Cond.code yX1_isIn cX1_isIn 3 (some .boolean), Cond.methodLink RX1 121 yX1_no, Cond.instanceMethod yX1_no, Cond.selects RX1 yX1_no yX1_no, Cond.code yX1_no cX1_no 2 (some .int), Cond.methodLink RX1 117 yX1_isOf, Cond.static yX1_isOf, Cond.code yX1_isOf cX1_isOf 2 (some .boolean), Cond.fieldLink RX1 30 "FiguredBassModel" "LOW" "[I", Cond.fieldLink RX1 33 "FiguredBassModel" "HIGH" "[I", Cond.methodLink RX1 46 yX1_at, Cond.instanceMethod yX1_at, Cond.selects RX1 yX1_at yX1_at, Cond.code yX1_at cX1_at 3 (some .int)]
def wsX1_would_r2 : List Cond := [Cond.methodLink RX1 133 yX1_all, Cond.instanceMethod yX1_all, Cond.selects RX1 yX1_all yX1_all, Cond.code yX1_all cX1_all 4 (some .int), Cond.methodLink RX1 130 yX1_chordTold, Cond.instanceMethod yX1_chordTold, Cond.selects RX1 yX1_chordTold yX1_chordTold, Cond.code yX1_chordTold cX1_chordTold 3 (some .int), Cond.fieldLink RX1 13 "FiguredBassModel" "figures" "[I", Cond.methodLink RX1 56 yX1_isSet, Cond.instanceMethod yX1_isSet, Cond.selects RX1 yX1_isSet yX1_isSet, Cond.code yX1_isSet cX1_isSet 2 (some .boolean), Cond.methodLink RX1 94 yX1_isRight, Cond.instanceMethod yX1_isRight, Cond.selects RX1 yX1_isRight yX1_isRight, Cond.code yX1_isRight cX1_isRight 5 (some .boolean), Cond.fieldLink RX1 50 "FiguredBassModel" "STEPS" "[I", Cond.methodLink RX1 53 yX1_step, Cond.static yX1_step, Cond.code yX1_step cX1_step 2 (some .int), Cond.methodLink RX1 91 yX1_steps, Cond.instanceMethod yX1_steps, Cond.selects RX1 yX1_steps yX1_steps]
def wsX1_would_r3 : List Cond := [Cond.code yX1_steps cX1_steps 4 (some .int), Cond.methodLink RX1 73 Lib.Math.abs.name, Cond.static Lib.Math.abs.name, Cond.initialized "java/lang/Math", Cond.code Lib.Math.abs.name Lib.Math.abs.code 1 (some .int), Cond.methodLink RX1 78 yX1_isPair, Cond.instanceMethod yX1_isPair, Cond.selects RX1 yX1_isPair yX1_isPair, Cond.code yX1_isPair cX1_isPair 2 (some .boolean), Cond.methodLink RX1 64 yX1_goes, Cond.instanceMethod yX1_goes, Cond.selects RX1 yX1_goes yX1_goes, Cond.code yX1_goes cX1_goes 3 (some .int), Cond.methodLink RX1 110 yX1_cost, Cond.instanceMethod yX1_cost, Cond.selects RX1 yX1_cost yX1_cost, Cond.code yX1_cost cX1_cost 4 (some .int), Cond.fieldLink RX1 16 "FiguredBassModel" "weights" "[I", Cond.methodLink RX1 97 yX1_faultsOf, Cond.instanceMethod yX1_faultsOf, Cond.selects RX1 yX1_faultsOf yX1_faultsOf, Cond.code yX1_faultsOf cX1_faultsOf 5 (some .int), Cond.methodLink RX1 81 yX1_parallels, Cond.instanceMethod yX1_parallels]
def wsX1_would_r4 : List Cond := [Cond.selects RX1 yX1_parallels yX1_parallels, Cond.code yX1_parallels cX1_parallels 6 (some .int), Cond.methodLink RX1 67 yX1_isFifth, Cond.instanceMethod yX1_isFifth, Cond.selects RX1 yX1_isFifth yX1_isFifth, Cond.code yX1_isFifth cX1_isFifth 5 (some .boolean), Cond.methodLink RX1 60 yX1_pitchOf, Cond.instanceMethod yX1_pitchOf, Cond.selects RX1 yX1_pitchOf yX1_pitchOf, Cond.code yX1_pitchOf cX1_pitchOf 2 (some .int), Cond.fieldLink RX1 36 "FiguredBassModel" "isMinor" "Z", Cond.fieldLink RX1 40 "FiguredBassModel" "MINOR" "[I", Cond.fieldLink RX1 43 "FiguredBassModel" "MAJOR" "[I", Cond.methodLink RX1 70 yX1_isOctave, Cond.instanceMethod yX1_isOctave, Cond.selects RX1 yX1_isOctave yX1_isOctave, Cond.code yX1_isOctave cX1_isOctave 4 (some .boolean), Cond.methodLink RX1 85 yX1_isHidden, Cond.instanceMethod yX1_isHidden, Cond.selects RX1 yX1_isHidden yX1_isHidden, Cond.code yX1_isHidden cX1_isHidden 4 (some .boolean), Cond.methodLink RX1 88 yX1_isFault, Cond.instanceMethod yX1_isFault, Cond.selects RX1 yX1_isFault yX1_isFault]
def wsX1_would_r5 : List Cond := [Cond.code yX1_isFault cX1_isFault 6 (some .boolean)]
def wsX1_would : List Cond := .code yX1_would cX1_would 6 (some .int) :: ((wsX1_would_r1 ++ (wsX1_would_r2 ++ (wsX1_would_r3 ++ (wsX1_would_r4 ++ wsX1_would_r5)))) ++ wsX10)
def wsX1_best_r1 : List Cond := [Cond.fieldLink RX1 19 "FiguredBassModel" "thrown" "I", Cond.methodLink RX1 124 yX1_isChord, Cond.instanceMethod yX1_isChord, Cond.selects RX1 yX1_isChord yX1_isChord, Cond.initialized RX1, Cond.code yX1_isChord cX1_isChord 2 (some .boolean), Cond.fieldLink RX1 23 "FiguredBassModel" "chords" "I", Cond.methodLink RX1 26 yX1_isIn, Cond.static yX1_isIn, Cond.code yX1_isIn cX1_isIn 3 (some .boolean), Cond.methodLink RX1 113 yX1_led, Cond.instanceMethod yX1_led, Cond.selects RX1 yX1_led yX1_led, Cond.code yX1_led cX1_led 8 (some (.array .int)), Cond.arrayClass .int, Cond.fieldLink RX1 30 "FiguredBassModel" "LOW" "[I", Cond.fieldLink RX1 33 "FiguredBassModel" "HIGH" "[I", Cond.fieldLink RX1 13 "FiguredBassModel" "figures" "[I", Cond.methodLink RX1 103 Lib.Math.max.name, Cond.static Lib.Math.max.name, Cond.initialized "java/lang/Math", Cond.code Lib.Math.max.name Lib.Math.max.code 2 (some .int), Cond.methodLink RX1 46 yX1_at, Cond.instanceMethod yX1_at]
def wsX1_best_r2 : List Cond := [Cond.selects RX1 yX1_at yX1_at, Cond.code yX1_at cX1_at 3 (some .int), Cond.fieldLink RX1 9 "FiguredBassModel" "notes" "[I", Cond.methodLink RX1 100 yX1_belongs, Cond.static yX1_belongs, Cond.code yX1_belongs cX1_belongs 3 (some .boolean), Cond.fieldLink RX1 50 "FiguredBassModel" "STEPS" "[I", Cond.methodLink RX1 53 yX1_step, Cond.static yX1_step, Cond.code yX1_step cX1_step 2 (some .int), Cond.methodLink RX1 106 yX1_let, Cond.instanceMethod yX1_let, Cond.selects RX1 yX1_let yX1_let, Cond.code yX1_let cX1_let 5 none, Cond.methodLink RX1 94 yX1_isRight, Cond.instanceMethod yX1_isRight, Cond.selects RX1 yX1_isRight yX1_isRight, Cond.code yX1_isRight cX1_isRight 5 (some .boolean), Cond.methodLink RX1 56 yX1_isSet, Cond.instanceMethod yX1_isSet, Cond.selects RX1 yX1_isSet yX1_isSet, Cond.code yX1_isSet cX1_isSet 2 (some .boolean), Cond.methodLink RX1 110 yX1_cost, Cond.instanceMethod yX1_cost]
def wsX1_best_r3 : List Cond := [Cond.selects RX1 yX1_cost yX1_cost, Cond.code yX1_cost cX1_cost 4 (some .int), Cond.fieldLink RX1 16 "FiguredBassModel" "weights" "[I", Cond.methodLink RX1 91 yX1_steps, Cond.instanceMethod yX1_steps, Cond.selects RX1 yX1_steps yX1_steps, Cond.code yX1_steps cX1_steps 4 (some .int), Cond.methodLink RX1 73 Lib.Math.abs.name, Cond.static Lib.Math.abs.name, Cond.code Lib.Math.abs.name Lib.Math.abs.code 1 (some .int), Cond.methodLink RX1 78 yX1_isPair, Cond.instanceMethod yX1_isPair, Cond.selects RX1 yX1_isPair yX1_isPair, Cond.code yX1_isPair cX1_isPair 2 (some .boolean), Cond.methodLink RX1 64 yX1_goes, Cond.instanceMethod yX1_goes, Cond.selects RX1 yX1_goes yX1_goes, Cond.code yX1_goes cX1_goes 3 (some .int), Cond.methodLink RX1 97 yX1_faultsOf, Cond.instanceMethod yX1_faultsOf, Cond.selects RX1 yX1_faultsOf yX1_faultsOf, Cond.code yX1_faultsOf cX1_faultsOf 5 (some .int), Cond.methodLink RX1 81 yX1_parallels, Cond.instanceMethod yX1_parallels]
def wsX1_best_r4 : List Cond := [Cond.selects RX1 yX1_parallels yX1_parallels, Cond.code yX1_parallels cX1_parallels 6 (some .int), Cond.methodLink RX1 67 yX1_isFifth, Cond.instanceMethod yX1_isFifth, Cond.selects RX1 yX1_isFifth yX1_isFifth, Cond.code yX1_isFifth cX1_isFifth 5 (some .boolean), Cond.methodLink RX1 60 yX1_pitchOf, Cond.instanceMethod yX1_pitchOf, Cond.selects RX1 yX1_pitchOf yX1_pitchOf, Cond.code yX1_pitchOf cX1_pitchOf 2 (some .int), Cond.fieldLink RX1 36 "FiguredBassModel" "isMinor" "Z", Cond.fieldLink RX1 40 "FiguredBassModel" "MINOR" "[I", Cond.fieldLink RX1 43 "FiguredBassModel" "MAJOR" "[I", Cond.methodLink RX1 70 yX1_isOctave, Cond.instanceMethod yX1_isOctave, Cond.selects RX1 yX1_isOctave yX1_isOctave, Cond.code yX1_isOctave cX1_isOctave 4 (some .boolean), Cond.methodLink RX1 85 yX1_isHidden, Cond.instanceMethod yX1_isHidden, Cond.selects RX1 yX1_isHidden yX1_isHidden, Cond.code yX1_isHidden cX1_isHidden 4 (some .boolean), Cond.methodLink RX1 88 yX1_isFault, Cond.instanceMethod yX1_isFault, Cond.selects RX1 yX1_isFault yX1_isFault]
def wsX1_best_r5 : List Cond := [Cond.code yX1_isFault cX1_isFault 6 (some .boolean), Cond.methodLink RX1 121 yX1_no, Cond.instanceMethod yX1_no, Cond.selects RX1 yX1_no yX1_no, Cond.code yX1_no cX1_no 2 (some .int)]
def wsX1_best : List Cond := .code yX1_best cX1_best 2 (some .int) :: ((wsX1_best_r1 ++ (wsX1_best_r2 ++ (wsX1_best_r3 ++ (wsX1_best_r4 ++ wsX1_best_r5)))) ++ wsX10)
def wsX1_advise_r1 : List Cond := [Cond.fieldLink RX1 19 "FiguredBassModel" "thrown" "I", Cond.fieldLink RX1 13 "FiguredBassModel" "figures" "[I", Cond.fieldLink RX1 50 "FiguredBassModel" "STEPS" "[I", Cond.methodLink RX1 124 yX1_isChord, Cond.instanceMethod yX1_isChord, Cond.selects RX1 yX1_isChord yX1_isChord, Cond.initialized RX1, Cond.code yX1_isChord cX1_isChord 2 (some .boolean), Cond.fieldLink RX1 23 "FiguredBassModel" "chords" "I", Cond.methodLink RX1 26 yX1_isIn, Cond.static yX1_isIn, Cond.code yX1_isIn cX1_isIn 3 (some .boolean), Cond.methodLink RX1 121 yX1_no, Cond.instanceMethod yX1_no, Cond.selects RX1 yX1_no yX1_no, Cond.code yX1_no cX1_no 2 (some .int), Cond.methodLink RX1 113 yX1_led, Cond.instanceMethod yX1_led, Cond.selects RX1 yX1_led yX1_led, Cond.code yX1_led cX1_led 8 (some (.array .int)), Cond.arrayClass .int, Cond.fieldLink RX1 30 "FiguredBassModel" "LOW" "[I", Cond.fieldLink RX1 33 "FiguredBassModel" "HIGH" "[I", Cond.methodLink RX1 103 Lib.Math.max.name]
def wsX1_advise_r2 : List Cond := [Cond.static Lib.Math.max.name, Cond.initialized "java/lang/Math", Cond.code Lib.Math.max.name Lib.Math.max.code 2 (some .int), Cond.methodLink RX1 46 yX1_at, Cond.instanceMethod yX1_at, Cond.selects RX1 yX1_at yX1_at, Cond.code yX1_at cX1_at 3 (some .int), Cond.fieldLink RX1 9 "FiguredBassModel" "notes" "[I", Cond.methodLink RX1 100 yX1_belongs, Cond.static yX1_belongs, Cond.code yX1_belongs cX1_belongs 3 (some .boolean), Cond.methodLink RX1 53 yX1_step, Cond.static yX1_step, Cond.code yX1_step cX1_step 2 (some .int), Cond.methodLink RX1 106 yX1_let, Cond.instanceMethod yX1_let, Cond.selects RX1 yX1_let yX1_let, Cond.code yX1_let cX1_let 5 none, Cond.methodLink RX1 94 yX1_isRight, Cond.instanceMethod yX1_isRight, Cond.selects RX1 yX1_isRight yX1_isRight, Cond.code yX1_isRight cX1_isRight 5 (some .boolean), Cond.methodLink RX1 56 yX1_isSet, Cond.instanceMethod yX1_isSet]
def wsX1_advise_r3 : List Cond := [Cond.selects RX1 yX1_isSet yX1_isSet, Cond.code yX1_isSet cX1_isSet 2 (some .boolean), Cond.methodLink RX1 110 yX1_cost, Cond.instanceMethod yX1_cost, Cond.selects RX1 yX1_cost yX1_cost, Cond.code yX1_cost cX1_cost 4 (some .int), Cond.fieldLink RX1 16 "FiguredBassModel" "weights" "[I", Cond.methodLink RX1 91 yX1_steps, Cond.instanceMethod yX1_steps, Cond.selects RX1 yX1_steps yX1_steps, Cond.code yX1_steps cX1_steps 4 (some .int), Cond.methodLink RX1 73 Lib.Math.abs.name, Cond.static Lib.Math.abs.name, Cond.code Lib.Math.abs.name Lib.Math.abs.code 1 (some .int), Cond.methodLink RX1 78 yX1_isPair, Cond.instanceMethod yX1_isPair, Cond.selects RX1 yX1_isPair yX1_isPair, Cond.code yX1_isPair cX1_isPair 2 (some .boolean), Cond.methodLink RX1 64 yX1_goes, Cond.instanceMethod yX1_goes, Cond.selects RX1 yX1_goes yX1_goes, Cond.code yX1_goes cX1_goes 3 (some .int), Cond.methodLink RX1 97 yX1_faultsOf, Cond.instanceMethod yX1_faultsOf]
def wsX1_advise_r4 : List Cond := [Cond.selects RX1 yX1_faultsOf yX1_faultsOf, Cond.code yX1_faultsOf cX1_faultsOf 5 (some .int), Cond.methodLink RX1 81 yX1_parallels, Cond.instanceMethod yX1_parallels, Cond.selects RX1 yX1_parallels yX1_parallels, Cond.code yX1_parallels cX1_parallels 6 (some .int), Cond.methodLink RX1 67 yX1_isFifth, Cond.instanceMethod yX1_isFifth, Cond.selects RX1 yX1_isFifth yX1_isFifth, Cond.code yX1_isFifth cX1_isFifth 5 (some .boolean), Cond.methodLink RX1 60 yX1_pitchOf, Cond.instanceMethod yX1_pitchOf, Cond.selects RX1 yX1_pitchOf yX1_pitchOf, Cond.code yX1_pitchOf cX1_pitchOf 2 (some .int), Cond.fieldLink RX1 36 "FiguredBassModel" "isMinor" "Z", Cond.fieldLink RX1 40 "FiguredBassModel" "MINOR" "[I", Cond.fieldLink RX1 43 "FiguredBassModel" "MAJOR" "[I", Cond.methodLink RX1 70 yX1_isOctave, Cond.instanceMethod yX1_isOctave, Cond.selects RX1 yX1_isOctave yX1_isOctave, Cond.code yX1_isOctave cX1_isOctave 4 (some .boolean), Cond.methodLink RX1 85 yX1_isHidden, Cond.instanceMethod yX1_isHidden, Cond.selects RX1 yX1_isHidden yX1_isHidden]
def wsX1_advise_r5 : List Cond := [Cond.code yX1_isHidden cX1_isHidden 4 (some .boolean), Cond.methodLink RX1 88 yX1_isFault, Cond.instanceMethod yX1_isFault, Cond.selects RX1 yX1_isFault yX1_isFault, Cond.code yX1_isFault cX1_isFault 6 (some .boolean)]
def wsX1_advise : List Cond := .code yX1_advise cX1_advise 7 (some .int) :: ((wsX1_advise_r1 ++ (wsX1_advise_r2 ++ (wsX1_advise_r3 ++ (wsX1_advise_r4 ++ wsX1_advise_r5)))) ++ wsX10)
def wsX1_mean_r1 : List Cond := [Cond.fieldLink RX1 19 "FiguredBassModel" "thrown" "I", Cond.methodLink RX1 133 yX1_all, Cond.instanceMethod yX1_all, Cond.selects RX1 yX1_all yX1_all, Cond.initialized RX1, Cond.code yX1_all cX1_all 4 (some .int), Cond.fieldLink RX1 23 "FiguredBassModel" "chords" "I", Cond.methodLink RX1 130 yX1_chordTold, Cond.instanceMethod yX1_chordTold, Cond.selects RX1 yX1_chordTold yX1_chordTold, Cond.code yX1_chordTold cX1_chordTold 3 (some .int), Cond.fieldLink RX1 13 "FiguredBassModel" "figures" "[I", Cond.methodLink RX1 46 yX1_at, Cond.instanceMethod yX1_at, Cond.selects RX1 yX1_at yX1_at, Cond.code yX1_at cX1_at 3 (some .int), Cond.fieldLink RX1 9 "FiguredBassModel" "notes" "[I", Cond.methodLink RX1 56 yX1_isSet, Cond.instanceMethod yX1_isSet, Cond.selects RX1 yX1_isSet yX1_isSet, Cond.code yX1_isSet cX1_isSet 2 (some .boolean), Cond.methodLink RX1 94 yX1_isRight, Cond.instanceMethod yX1_isRight, Cond.selects RX1 yX1_isRight yX1_isRight]
def wsX1_mean_r2 : List Cond := [Cond.code yX1_isRight cX1_isRight 5 (some .boolean), Cond.fieldLink RX1 50 "FiguredBassModel" "STEPS" "[I", Cond.methodLink RX1 53 yX1_step, Cond.static yX1_step, Cond.code yX1_step cX1_step 2 (some .int), Cond.methodLink RX1 91 yX1_steps, Cond.instanceMethod yX1_steps, Cond.selects RX1 yX1_steps yX1_steps, Cond.code yX1_steps cX1_steps 4 (some .int), Cond.methodLink RX1 73 Lib.Math.abs.name, Cond.static Lib.Math.abs.name, Cond.initialized "java/lang/Math", Cond.code Lib.Math.abs.name Lib.Math.abs.code 1 (some .int), Cond.methodLink RX1 78 yX1_isPair, Cond.instanceMethod yX1_isPair, Cond.selects RX1 yX1_isPair yX1_isPair, Cond.code yX1_isPair cX1_isPair 2 (some .boolean), Cond.methodLink RX1 64 yX1_goes, Cond.instanceMethod yX1_goes, Cond.selects RX1 yX1_goes yX1_goes, Cond.code yX1_goes cX1_goes 3 (some .int), Cond.methodLink RX1 110 yX1_cost, Cond.instanceMethod yX1_cost, Cond.selects RX1 yX1_cost yX1_cost]
def wsX1_mean_r3 : List Cond := [Cond.code yX1_cost cX1_cost 4 (some .int), Cond.fieldLink RX1 16 "FiguredBassModel" "weights" "[I", Cond.methodLink RX1 97 yX1_faultsOf, Cond.instanceMethod yX1_faultsOf, Cond.selects RX1 yX1_faultsOf yX1_faultsOf, Cond.code yX1_faultsOf cX1_faultsOf 5 (some .int), Cond.methodLink RX1 81 yX1_parallels, Cond.instanceMethod yX1_parallels, Cond.selects RX1 yX1_parallels yX1_parallels, Cond.code yX1_parallels cX1_parallels 6 (some .int), Cond.methodLink RX1 67 yX1_isFifth, Cond.instanceMethod yX1_isFifth, Cond.selects RX1 yX1_isFifth yX1_isFifth, Cond.code yX1_isFifth cX1_isFifth 5 (some .boolean), Cond.methodLink RX1 60 yX1_pitchOf, Cond.instanceMethod yX1_pitchOf, Cond.selects RX1 yX1_pitchOf yX1_pitchOf, Cond.code yX1_pitchOf cX1_pitchOf 2 (some .int), Cond.fieldLink RX1 36 "FiguredBassModel" "isMinor" "Z", Cond.fieldLink RX1 40 "FiguredBassModel" "MINOR" "[I", Cond.fieldLink RX1 43 "FiguredBassModel" "MAJOR" "[I", Cond.methodLink RX1 70 yX1_isOctave, Cond.instanceMethod yX1_isOctave, Cond.selects RX1 yX1_isOctave yX1_isOctave]
def wsX1_mean_r4 : List Cond := [Cond.code yX1_isOctave cX1_isOctave 4 (some .boolean), Cond.methodLink RX1 85 yX1_isHidden, Cond.instanceMethod yX1_isHidden, Cond.selects RX1 yX1_isHidden yX1_isHidden, Cond.code yX1_isHidden cX1_isHidden 4 (some .boolean), Cond.methodLink RX1 88 yX1_isFault, Cond.instanceMethod yX1_isFault, Cond.selects RX1 yX1_isFault yX1_isFault, Cond.code yX1_isFault cX1_isFault 6 (some .boolean)]
def wsX1_mean : List Cond := .code yX1_mean cX1_mean 1 (some .double) :: ((wsX1_mean_r1 ++ (wsX1_mean_r2 ++ (wsX1_mean_r3 ++ wsX1_mean_r4))) ++ wsX10)
def wsX1_digest_r1 : List Cond := [Cond.fieldLink RX1 19 "FiguredBassModel" "thrown" "I", Cond.constantLong RX1 143 (1693), Cond.constantLong RX1 145 (31), Cond.fieldLink RX1 16 "FiguredBassModel" "weights" "[I", Cond.fieldLink RX1 23 "FiguredBassModel" "chords" "I", Cond.methodLink RX1 140 yX1_counted, Cond.instanceMethod yX1_counted, Cond.selects RX1 yX1_counted yX1_counted, Cond.initialized RX1, Cond.code yX1_counted cX1_counted 2 (some .int), Cond.fieldLink RX1 36 "FiguredBassModel" "isMinor" "Z", Cond.methodLink RX1 133 yX1_all, Cond.instanceMethod yX1_all, Cond.selects RX1 yX1_all yX1_all, Cond.code yX1_all cX1_all 4 (some .int), Cond.methodLink RX1 130 yX1_chordTold, Cond.instanceMethod yX1_chordTold, Cond.selects RX1 yX1_chordTold yX1_chordTold, Cond.code yX1_chordTold cX1_chordTold 3 (some .int), Cond.fieldLink RX1 13 "FiguredBassModel" "figures" "[I", Cond.methodLink RX1 46 yX1_at, Cond.instanceMethod yX1_at, Cond.selects RX1 yX1_at yX1_at, Cond.code yX1_at cX1_at 3 (some .int)]
def wsX1_digest_r2 : List Cond := [Cond.fieldLink RX1 9 "FiguredBassModel" "notes" "[I", Cond.methodLink RX1 56 yX1_isSet, Cond.instanceMethod yX1_isSet, Cond.selects RX1 yX1_isSet yX1_isSet, Cond.code yX1_isSet cX1_isSet 2 (some .boolean), Cond.methodLink RX1 94 yX1_isRight, Cond.instanceMethod yX1_isRight, Cond.selects RX1 yX1_isRight yX1_isRight, Cond.code yX1_isRight cX1_isRight 5 (some .boolean), Cond.fieldLink RX1 50 "FiguredBassModel" "STEPS" "[I", Cond.methodLink RX1 53 yX1_step, Cond.static yX1_step, Cond.code yX1_step cX1_step 2 (some .int), Cond.methodLink RX1 91 yX1_steps, Cond.instanceMethod yX1_steps, Cond.selects RX1 yX1_steps yX1_steps, Cond.code yX1_steps cX1_steps 4 (some .int), Cond.methodLink RX1 73 Lib.Math.abs.name, Cond.static Lib.Math.abs.name, Cond.initialized "java/lang/Math", Cond.code Lib.Math.abs.name Lib.Math.abs.code 1 (some .int), Cond.methodLink RX1 78 yX1_isPair, Cond.instanceMethod yX1_isPair, Cond.selects RX1 yX1_isPair yX1_isPair]
def wsX1_digest_r3 : List Cond := [Cond.code yX1_isPair cX1_isPair 2 (some .boolean), Cond.methodLink RX1 64 yX1_goes, Cond.instanceMethod yX1_goes, Cond.selects RX1 yX1_goes yX1_goes, Cond.code yX1_goes cX1_goes 3 (some .int), Cond.methodLink RX1 110 yX1_cost, Cond.instanceMethod yX1_cost, Cond.selects RX1 yX1_cost yX1_cost, Cond.code yX1_cost cX1_cost 4 (some .int), Cond.methodLink RX1 97 yX1_faultsOf, Cond.instanceMethod yX1_faultsOf, Cond.selects RX1 yX1_faultsOf yX1_faultsOf, Cond.code yX1_faultsOf cX1_faultsOf 5 (some .int), Cond.methodLink RX1 81 yX1_parallels, Cond.instanceMethod yX1_parallels, Cond.selects RX1 yX1_parallels yX1_parallels, Cond.code yX1_parallels cX1_parallels 6 (some .int), Cond.methodLink RX1 67 yX1_isFifth, Cond.instanceMethod yX1_isFifth, Cond.selects RX1 yX1_isFifth yX1_isFifth, Cond.code yX1_isFifth cX1_isFifth 5 (some .boolean), Cond.methodLink RX1 60 yX1_pitchOf, Cond.instanceMethod yX1_pitchOf, Cond.selects RX1 yX1_pitchOf yX1_pitchOf]
def wsX1_digest_r4 : List Cond := [Cond.code yX1_pitchOf cX1_pitchOf 2 (some .int), Cond.fieldLink RX1 40 "FiguredBassModel" "MINOR" "[I", Cond.fieldLink RX1 43 "FiguredBassModel" "MAJOR" "[I", Cond.methodLink RX1 70 yX1_isOctave, Cond.instanceMethod yX1_isOctave, Cond.selects RX1 yX1_isOctave yX1_isOctave, Cond.code yX1_isOctave cX1_isOctave 4 (some .boolean), Cond.methodLink RX1 85 yX1_isHidden, Cond.instanceMethod yX1_isHidden, Cond.selects RX1 yX1_isHidden yX1_isHidden, Cond.code yX1_isHidden cX1_isHidden 4 (some .boolean), Cond.methodLink RX1 88 yX1_isFault, Cond.instanceMethod yX1_isFault, Cond.selects RX1 yX1_isFault yX1_isFault, Cond.code yX1_isFault cX1_isFault 6 (some .boolean), Cond.methodLink RX1 136 yX1_allFaults, Cond.instanceMethod yX1_allFaults, Cond.selects RX1 yX1_allFaults yX1_allFaults, Cond.code yX1_allFaults cX1_allFaults 3 (some .int), Cond.methodLink RX1 113 yX1_led, Cond.instanceMethod yX1_led, Cond.selects RX1 yX1_led yX1_led, Cond.code yX1_led cX1_led 8 (some (.array .int)), Cond.arrayClass .int]
def wsX1_digest_r5 : List Cond := [Cond.fieldLink RX1 30 "FiguredBassModel" "LOW" "[I", Cond.fieldLink RX1 33 "FiguredBassModel" "HIGH" "[I", Cond.methodLink RX1 103 Lib.Math.max.name, Cond.static Lib.Math.max.name, Cond.code Lib.Math.max.name Lib.Math.max.code 2 (some .int), Cond.methodLink RX1 100 yX1_belongs, Cond.static yX1_belongs, Cond.code yX1_belongs cX1_belongs 3 (some .boolean), Cond.methodLink RX1 106 yX1_let, Cond.instanceMethod yX1_let, Cond.selects RX1 yX1_let yX1_let, Cond.code yX1_let cX1_let 5 none]
def wsX1_digest : List Cond := .code yX1_digest cX1_digest 7 (some .long) :: ((wsX1_digest_r1 ++ (wsX1_digest_r2 ++ (wsX1_digest_r3 ++ (wsX1_digest_r4 ++ wsX1_digest_r5)))) ++ wsX10)
def wsJ9_abs_0f7a4 : List Cond := .code yJ9_abs_0f7a4 cJ9_abs_0f7a4 1 (some .int) :: ([])
def wsJ9_max_7cf53 : List Cond := .code yJ9_max_7cf53 cJ9_max_7cf53 2 (some .int) :: ([])
def wsL_chord_r1 : List Cond := [Cond.classLink RL 13 "java/lang/IllegalArgumentException", Cond.classLink RL 15 "java/lang/IllegalStateException", Cond.methodLink RL 7 yX0_chord, Cond.instanceMethod yX0_chord, Cond.selects RX0 yX0_chord yX0_chord, Cond.initialized RX0, Cond.code yX0_chord cX0_chord 4 (some .int), Cond.classLink RX0 34 "java/lang/IllegalArgumentException", Cond.initialized "java/lang/IllegalArgumentException", Cond.classLink RX0 47 "java/lang/IllegalStateException", Cond.initialized "java/lang/IllegalStateException", Cond.fieldLink RX0 7 "FiguredBass" "size" "I", Cond.fieldLink RX0 17 "FiguredBass" "figures" "[I", Cond.fieldLink RX0 21 "FiguredBass" "notes" "[I", Cond.methodLink RX0 30 yX0_isNoteOf, Cond.static yX0_isNoteOf, Cond.code yX0_isNoteOf cX0_isNoteOf 2 (some .boolean), Cond.fieldLink RX0 139 "FiguredBass" "LOWEST" "[I", Cond.fieldLink RX0 142 "FiguredBass" "HIGHEST" "[I", Cond.methodLink RX0 41 yX0_isFigure, Cond.static yX0_isFigure, Cond.code yX0_isFigure cX0_isFigure 1 (some .boolean), Cond.fieldLink RX0 132 "FiguredBass" "FIGURE_STEPS" "[I", Cond.methodLink RX0 52 yX0_putNotes]
def wsL_chord_r2 : List Cond := [Cond.instanceMethod yX0_putNotes, Cond.selects RX0 yX0_putNotes yX0_putNotes, Cond.code yX0_putNotes cX0_putNotes 5 none]
def wsL_chord : List Cond := .codeWith yL_chord cL_chord 5 (some .int) [(0, 10, 13, 13), (0, 10, 17, 15)] :: ((wsL_chord_r1 ++ wsL_chord_r2) ++ wsX00 ++ (vx_atS RX0 38 "java/lang/IllegalArgumentException" ["java/lang/RuntimeException", "java/lang/Exception"]).filter goodWord ++ (vx_atS RX0 51 "java/lang/IllegalStateException" ["java/lang/RuntimeException", "java/lang/Exception"]).filter goodWord)
def wsL_setBass_r1 : List Cond := [Cond.classLink RL 20 "java/lang/IndexOutOfBoundsException", Cond.classLink RL 13 "java/lang/IllegalArgumentException", Cond.methodLink RL 17 yX0_setBass, Cond.instanceMethod yX0_setBass, Cond.selects RX0 yX0_setBass yX0_setBass, Cond.initialized RX0, Cond.code yX0_setBass cX0_setBass 3 (some .int), Cond.classLink RX0 59 "java/lang/IndexOutOfBoundsException", Cond.initialized "java/lang/IndexOutOfBoundsException", Cond.classLink RX0 34 "java/lang/IllegalArgumentException", Cond.initialized "java/lang/IllegalArgumentException", Cond.methodLink RX0 56 yX0_isChord, Cond.instanceMethod yX0_isChord, Cond.selects RX0 yX0_isChord yX0_isChord, Cond.code yX0_isChord cX0_isChord 2 (some .boolean), Cond.fieldLink RX0 7 "FiguredBass" "size" "I", Cond.methodLink RX0 30 yX0_isNoteOf, Cond.static yX0_isNoteOf, Cond.code yX0_isNoteOf cX0_isNoteOf 2 (some .boolean), Cond.fieldLink RX0 139 "FiguredBass" "LOWEST" "[I", Cond.fieldLink RX0 142 "FiguredBass" "HIGHEST" "[I", Cond.methodLink RX0 64 yX0_exchangeNote, Cond.instanceMethod yX0_exchangeNote, Cond.selects RX0 yX0_exchangeNote yX0_exchangeNote]
def wsL_setBass_r2 : List Cond := [Cond.code yX0_exchangeNote cX0_exchangeNote 5 (some .int), Cond.fieldLink RX0 21 "FiguredBass" "notes" "[I"]
def wsL_setBass : List Cond := .codeWith yL_setBass cL_setBass 5 (some .int) [(0, 10, 13, 20), (0, 10, 17, 13)] :: ((wsL_setBass_r1 ++ wsL_setBass_r2) ++ wsX00 ++ (vx_atS RX0 63 "java/lang/IndexOutOfBoundsException" ["java/lang/RuntimeException", "java/lang/Exception"]).filter goodWord ++ (vx_atS RX0 38 "java/lang/IllegalArgumentException" ["java/lang/RuntimeException", "java/lang/Exception"]).filter goodWord)
def wsL_setFigure : List Cond := .codeWith yL_setFigure cL_setFigure 5 (some .int) [(0, 10, 13, 20), (0, 10, 17, 13)] :: ([.classLink RL 20 "java/lang/IndexOutOfBoundsException", .classLink RL 13 "java/lang/IllegalArgumentException", .methodLink RL 22 yX0_setFigure, .instanceMethod yX0_setFigure, .selects RX0 yX0_setFigure yX0_setFigure, .initialized RX0, .code yX0_setFigure cX0_setFigure 4 (some .int), .classLink RX0 59 "java/lang/IndexOutOfBoundsException", .initialized "java/lang/IndexOutOfBoundsException", .classLink RX0 34 "java/lang/IllegalArgumentException", .initialized "java/lang/IllegalArgumentException", .fieldLink RX0 17 "FiguredBass" "figures" "[I", .methodLink RX0 56 yX0_isChord, .instanceMethod yX0_isChord, .selects RX0 yX0_isChord yX0_isChord, .code yX0_isChord cX0_isChord 2 (some .boolean), .fieldLink RX0 7 "FiguredBass" "size" "I", .methodLink RX0 41 yX0_isFigure, .static yX0_isFigure, .code yX0_isFigure cX0_isFigure 1 (some .boolean), .fieldLink RX0 132 "FiguredBass" "FIGURE_STEPS" "[I"] ++ wsX00 ++ (vx_atS RX0 63 "java/lang/IndexOutOfBoundsException" ["java/lang/RuntimeException", "java/lang/Exception"]).filter goodWord ++ (vx_atS RX0 38 "java/lang/IllegalArgumentException" ["java/lang/RuntimeException", "java/lang/Exception"]).filter goodWord)
def wsL_put_r1 : List Cond := [Cond.classLink RL 20 "java/lang/IndexOutOfBoundsException", Cond.classLink RL 13 "java/lang/IllegalArgumentException", Cond.methodLink RL 25 yX0_put, Cond.instanceMethod yX0_put, Cond.selects RX0 yX0_put yX0_put, Cond.initialized RX0, Cond.code yX0_put cX0_put 4 (some .int), Cond.classLink RX0 59 "java/lang/IndexOutOfBoundsException", Cond.initialized "java/lang/IndexOutOfBoundsException", Cond.classLink RX0 34 "java/lang/IllegalArgumentException", Cond.initialized "java/lang/IllegalArgumentException", Cond.methodLink RX0 56 yX0_isChord, Cond.instanceMethod yX0_isChord, Cond.selects RX0 yX0_isChord yX0_isChord, Cond.code yX0_isChord cX0_isChord 2 (some .boolean), Cond.fieldLink RX0 7 "FiguredBass" "size" "I", Cond.methodLink RX0 68 yX0_isUpperVoice, Cond.static yX0_isUpperVoice, Cond.code yX0_isUpperVoice cX0_isUpperVoice 1 (some .boolean), Cond.methodLink RX0 30 yX0_isNoteOf, Cond.static yX0_isNoteOf, Cond.code yX0_isNoteOf cX0_isNoteOf 2 (some .boolean), Cond.fieldLink RX0 139 "FiguredBass" "LOWEST" "[I", Cond.fieldLink RX0 142 "FiguredBass" "HIGHEST" "[I"]
def wsL_put_r2 : List Cond := [Cond.methodLink RX0 64 yX0_exchangeNote, Cond.instanceMethod yX0_exchangeNote, Cond.selects RX0 yX0_exchangeNote yX0_exchangeNote, Cond.code yX0_exchangeNote cX0_exchangeNote 5 (some .int), Cond.fieldLink RX0 21 "FiguredBass" "notes" "[I"]
def wsL_put : List Cond := .codeWith yL_put cL_put 6 (some .int) [(0, 12, 15, 20), (0, 12, 19, 13)] :: ((wsL_put_r1 ++ wsL_put_r2) ++ wsX00 ++ (vx_atS RX0 63 "java/lang/IndexOutOfBoundsException" ["java/lang/RuntimeException", "java/lang/Exception"]).filter goodWord ++ (vx_atS RX0 38 "java/lang/IllegalArgumentException" ["java/lang/RuntimeException", "java/lang/Exception"]).filter goodWord)
def wsL_drop : List Cond := .codeWith yL_drop cL_drop 3 (some .int) [(0, 8, 11, 15)] :: ([.classLink RL 15 "java/lang/IllegalStateException", .methodLink RL 29 yX0_drop, .instanceMethod yX0_drop, .selects RX0 yX0_drop yX0_drop, .initialized RX0, .code yX0_drop cX0_drop 1 (some .int), .classLink RX0 47 "java/lang/IllegalStateException", .initialized "java/lang/IllegalStateException", .fieldLink RX0 7 "FiguredBass" "size" "I"] ++ wsX00 ++ (vx_atS RX0 51 "java/lang/IllegalStateException" ["java/lang/RuntimeException", "java/lang/Exception"]).filter goodWord)
def wsL_setWeight : List Cond := .codeWith yL_setWeight cL_setWeight 5 (some .int) [(0, 10, 13, 20), (0, 10, 17, 13)] :: ([.classLink RL 20 "java/lang/IndexOutOfBoundsException", .classLink RL 13 "java/lang/IllegalArgumentException", .methodLink RL 33 yX0_setWeight, .instanceMethod yX0_setWeight, .selects RX0 yX0_setWeight yX0_setWeight, .initialized RX0, .code yX0_setWeight cX0_setWeight 4 (some .int), .classLink RX0 59 "java/lang/IndexOutOfBoundsException", .initialized "java/lang/IndexOutOfBoundsException", .classLink RX0 34 "java/lang/IllegalArgumentException", .initialized "java/lang/IllegalArgumentException", .fieldLink RX0 24 "FiguredBass" "weights" "[I", .methodLink RX0 77 yX0_isFault, .static yX0_isFault, .code yX0_isFault cX0_isFault 1 (some .boolean)] ++ wsX00 ++ (vx_atS RX0 63 "java/lang/IndexOutOfBoundsException" ["java/lang/RuntimeException", "java/lang/Exception"]).filter goodWord ++ (vx_atS RX0 38 "java/lang/IllegalArgumentException" ["java/lang/RuntimeException", "java/lang/Exception"]).filter goodWord)
def wsL_lead_r1 : List Cond := [Cond.classLink RL 20 "java/lang/IndexOutOfBoundsException", Cond.classLink RL 15 "java/lang/IllegalStateException", Cond.methodLink RL 36 yX0_lead, Cond.instanceMethod yX0_lead, Cond.selects RX0 yX0_lead yX0_lead, Cond.initialized RX0, Cond.code yX0_lead cX0_lead 3 (some .int), Cond.classLink RX0 59 "java/lang/IndexOutOfBoundsException", Cond.initialized "java/lang/IndexOutOfBoundsException", Cond.classLink RX0 47 "java/lang/IllegalStateException", Cond.initialized "java/lang/IllegalStateException", Cond.methodLink RX0 56 yX0_isChord, Cond.instanceMethod yX0_isChord, Cond.selects RX0 yX0_isChord yX0_isChord, Cond.code yX0_isChord cX0_isChord 2 (some .boolean), Cond.fieldLink RX0 7 "FiguredBass" "size" "I", Cond.methodLink RX0 84 yX0_bestWay, Cond.instanceMethod yX0_bestWay, Cond.selects RX0 yX0_bestWay yX0_bestWay, Cond.code yX0_bestWay cX0_bestWay 10 (some .int), Cond.fieldLink RX0 27 "FiguredBass" "wayList" "[I", Cond.methodLink RX0 99 yX0_noteAt, Cond.instanceMethod yX0_noteAt, Cond.selects RX0 yX0_noteAt yX0_noteAt]
def wsL_lead_r2 : List Cond := [Cond.code yX0_noteAt cX0_noteAt 3 (some .int), Cond.fieldLink RX0 21 "FiguredBass" "notes" "[I", Cond.methodLink RX0 129 yX0_listWays, Cond.instanceMethod yX0_listWays, Cond.selects RX0 yX0_listWays yX0_listWays, Cond.code yX0_listWays cX0_listWays 5 (some .int), Cond.fieldLink RX0 139 "FiguredBass" "LOWEST" "[I", Cond.fieldLink RX0 142 "FiguredBass" "HIGHEST" "[I", Cond.methodLink RX0 194 Lib.Math.max.name, Cond.static Lib.Math.max.name, Cond.initialized "java/lang/Math", Cond.code Lib.Math.max.name Lib.Math.max.code 2 (some .int), Cond.methodLink RX0 126 yX0_belongs, Cond.instanceMethod yX0_belongs, Cond.selects RX0 yX0_belongs yX0_belongs, Cond.code yX0_belongs cX0_belongs 4 (some .boolean), Cond.fieldLink RX0 132 "FiguredBass" "FIGURE_STEPS" "[I", Cond.fieldLink RX0 17 "FiguredBass" "figures" "[I", Cond.methodLink RX0 151 yX0_stepAbove, Cond.static yX0_stepAbove, Cond.code yX0_stepAbove cX0_stepAbove 3 (some .int), Cond.methodLink RX0 197 yX0_listSopranos, Cond.instanceMethod yX0_listSopranos, Cond.selects RX0 yX0_listSopranos yX0_listSopranos]
def wsL_lead_r3 : List Cond := [Cond.code yX0_listSopranos cX0_listSopranos 7 (some .int), Cond.methodLink RX0 157 yX0_isRightWith, Cond.instanceMethod yX0_isRightWith, Cond.selects RX0 yX0_isRightWith yX0_isRightWith, Cond.code yX0_isRightWith cX0_isRightWith 7 (some .boolean), Cond.methodLink RX0 90 yX0_putWay, Cond.instanceMethod yX0_putWay, Cond.selects RX0 yX0_putWay yX0_putWay, Cond.code yX0_putWay cX0_putWay 3 none, Cond.methodLink RX0 52 yX0_putNotes, Cond.instanceMethod yX0_putNotes, Cond.selects RX0 yX0_putNotes yX0_putNotes, Cond.code yX0_putNotes cX0_putNotes 5 none, Cond.methodLink RX0 94 yX0_costOf, Cond.instanceMethod yX0_costOf, Cond.selects RX0 yX0_costOf yX0_costOf, Cond.code yX0_costOf cX0_costOf 4 (some .int), Cond.fieldLink RX0 24 "FiguredBass" "weights" "[I", Cond.methodLink RX0 154 yX0_isSet, Cond.instanceMethod yX0_isSet, Cond.selects RX0 yX0_isSet yX0_isSet, Cond.code yX0_isSet cX0_isSet 2 (some .boolean), Cond.methodLink RX0 169 yX0_isRight, Cond.instanceMethod yX0_isRight]
def wsL_lead_r4 : List Cond := [Cond.selects RX0 yX0_isRight yX0_isRight, Cond.code yX0_isRight cX0_isRight 2 (some .boolean), Cond.methodLink RX0 172 yX0_stepsGone, Cond.instanceMethod yX0_stepsGone, Cond.selects RX0 yX0_stepsGone yX0_stepsGone, Cond.code yX0_stepsGone cX0_stepsGone 4 (some .int), Cond.methodLink RX0 164 Lib.Math.abs.name, Cond.static Lib.Math.abs.name, Cond.code Lib.Math.abs.name Lib.Math.abs.code 1 (some .int), Cond.methodLink RX0 161 yX0_follows, Cond.instanceMethod yX0_follows, Cond.selects RX0 yX0_follows yX0_follows, Cond.code yX0_follows cX0_follows 2 (some .boolean), Cond.methodLink RX0 110 yX0_faultsOf, Cond.instanceMethod yX0_faultsOf, Cond.selects RX0 yX0_faultsOf yX0_faultsOf, Cond.code yX0_faultsOf cX0_faultsOf 3 (some .int), Cond.methodLink RX0 175 yX0_parallels, Cond.instanceMethod yX0_parallels, Cond.selects RX0 yX0_parallels yX0_parallels, Cond.code yX0_parallels cX0_parallels 6 (some .int), Cond.methodLink RX0 184 yX0_moves, Cond.instanceMethod yX0_moves, Cond.selects RX0 yX0_moves yX0_moves]
def wsL_lead_r5 : List Cond := [Cond.code yX0_moves cX0_moves 3 (some .boolean), Cond.methodLink RX0 187 yX0_isInterval, Cond.instanceMethod yX0_isInterval, Cond.selects RX0 yX0_isInterval yX0_isInterval, Cond.code yX0_isInterval cX0_isInterval 6 (some .boolean), Cond.methodLink RX0 123 yX0_pitchOf, Cond.instanceMethod yX0_pitchOf, Cond.selects RX0 yX0_pitchOf yX0_pitchOf, Cond.code yX0_pitchOf cX0_pitchOf 3 (some .int), Cond.fieldLink RX0 13 "FiguredBass" "inMinor" "Z", Cond.fieldLink RX0 145 "FiguredBass" "MINOR" "[I", Cond.fieldLink RX0 148 "FiguredBass" "MAJOR" "[I", Cond.methodLink RX0 178 yX0_isHidden, Cond.instanceMethod yX0_isHidden, Cond.selects RX0 yX0_isHidden yX0_isHidden, Cond.code yX0_isHidden cX0_isHidden 6 (some .boolean), Cond.methodLink RX0 181 yX0_voicesAtFault, Cond.instanceMethod yX0_voicesAtFault, Cond.selects RX0 yX0_voicesAtFault yX0_voicesAtFault, Cond.code yX0_voicesAtFault cX0_voicesAtFault 5 (some .int), Cond.methodLink RX0 190 yX0_isAtFault, Cond.instanceMethod yX0_isAtFault, Cond.selects RX0 yX0_isAtFault yX0_isAtFault, Cond.code yX0_isAtFault cX0_isAtFault 8 (some .boolean)]
def wsL_lead : List Cond := .codeWith yL_lead cL_lead 4 (some .int) [(0, 9, 12, 20), (0, 9, 15, 15)] :: ((wsL_lead_r1 ++ (wsL_lead_r2 ++ (wsL_lead_r3 ++ (wsL_lead_r4 ++ wsL_lead_r5)))) ++ wsX00 ++ (vx_atS RX0 63 "java/lang/IndexOutOfBoundsException" ["java/lang/RuntimeException", "java/lang/Exception"]).filter goodWord ++ (vx_atS RX0 51 "java/lang/IllegalStateException" ["java/lang/RuntimeException", "java/lang/Exception"]).filter goodWord)
def wsL_note : List Cond := .codeWith yL_note cL_note 5 (some .int) [(0, 10, 13, 20)] :: ([.classLink RL 20 "java/lang/IndexOutOfBoundsException", .methodLink RL 40 yX0_note, .instanceMethod yX0_note, .selects RX0 yX0_note yX0_note, .initialized RX0, .code yX0_note cX0_note 3 (some .int), .classLink RX0 59 "java/lang/IndexOutOfBoundsException", .initialized "java/lang/IndexOutOfBoundsException", .methodLink RX0 56 yX0_isChord, .instanceMethod yX0_isChord, .selects RX0 yX0_isChord yX0_isChord, .code yX0_isChord cX0_isChord 2 (some .boolean), .fieldLink RX0 7 "FiguredBass" "size" "I", .methodLink RX0 99 yX0_noteAt, .instanceMethod yX0_noteAt, .selects RX0 yX0_noteAt yX0_noteAt, .code yX0_noteAt cX0_noteAt 3 (some .int), .fieldLink RX0 21 "FiguredBass" "notes" "[I"] ++ wsX00 ++ (vx_atS RX0 63 "java/lang/IndexOutOfBoundsException" ["java/lang/RuntimeException", "java/lang/Exception"]).filter goodWord)
def wsL_told_r1 : List Cond := [Cond.classLink RL 20 "java/lang/IndexOutOfBoundsException", Cond.methodLink RL 43 yX0_told, Cond.instanceMethod yX0_told, Cond.selects RX0 yX0_told yX0_told, Cond.initialized RX0, Cond.code yX0_told cX0_told 3 (some .int), Cond.classLink RX0 59 "java/lang/IndexOutOfBoundsException", Cond.initialized "java/lang/IndexOutOfBoundsException", Cond.methodLink RX0 56 yX0_isChord, Cond.instanceMethod yX0_isChord, Cond.selects RX0 yX0_isChord yX0_isChord, Cond.code yX0_isChord cX0_isChord 2 (some .boolean), Cond.fieldLink RX0 7 "FiguredBass" "size" "I", Cond.methodLink RX0 105 yX0_tellOf, Cond.instanceMethod yX0_tellOf, Cond.selects RX0 yX0_tellOf yX0_tellOf, Cond.code yX0_tellOf cX0_tellOf 3 (some .int), Cond.fieldLink RX0 17 "FiguredBass" "figures" "[I", Cond.methodLink RX0 99 yX0_noteAt, Cond.instanceMethod yX0_noteAt, Cond.selects RX0 yX0_noteAt yX0_noteAt, Cond.code yX0_noteAt cX0_noteAt 3 (some .int), Cond.fieldLink RX0 21 "FiguredBass" "notes" "[I", Cond.methodLink RX0 154 yX0_isSet]
def wsL_told_r2 : List Cond := [Cond.instanceMethod yX0_isSet, Cond.selects RX0 yX0_isSet yX0_isSet, Cond.code yX0_isSet cX0_isSet 2 (some .boolean), Cond.methodLink RX0 169 yX0_isRight, Cond.instanceMethod yX0_isRight, Cond.selects RX0 yX0_isRight yX0_isRight, Cond.code yX0_isRight cX0_isRight 2 (some .boolean), Cond.methodLink RX0 157 yX0_isRightWith, Cond.instanceMethod yX0_isRightWith, Cond.selects RX0 yX0_isRightWith yX0_isRightWith, Cond.code yX0_isRightWith cX0_isRightWith 7 (some .boolean), Cond.fieldLink RX0 132 "FiguredBass" "FIGURE_STEPS" "[I", Cond.methodLink RX0 151 yX0_stepAbove, Cond.static yX0_stepAbove, Cond.code yX0_stepAbove cX0_stepAbove 3 (some .int), Cond.methodLink RX0 172 yX0_stepsGone, Cond.instanceMethod yX0_stepsGone, Cond.selects RX0 yX0_stepsGone yX0_stepsGone, Cond.code yX0_stepsGone cX0_stepsGone 4 (some .int), Cond.methodLink RX0 164 Lib.Math.abs.name, Cond.static Lib.Math.abs.name, Cond.initialized "java/lang/Math", Cond.code Lib.Math.abs.name Lib.Math.abs.code 1 (some .int), Cond.methodLink RX0 161 yX0_follows]
def wsL_told_r3 : List Cond := [Cond.instanceMethod yX0_follows, Cond.selects RX0 yX0_follows yX0_follows, Cond.code yX0_follows cX0_follows 2 (some .boolean), Cond.methodLink RX0 94 yX0_costOf, Cond.instanceMethod yX0_costOf, Cond.selects RX0 yX0_costOf yX0_costOf, Cond.code yX0_costOf cX0_costOf 4 (some .int), Cond.fieldLink RX0 24 "FiguredBass" "weights" "[I", Cond.methodLink RX0 110 yX0_faultsOf, Cond.instanceMethod yX0_faultsOf, Cond.selects RX0 yX0_faultsOf yX0_faultsOf, Cond.code yX0_faultsOf cX0_faultsOf 3 (some .int), Cond.methodLink RX0 175 yX0_parallels, Cond.instanceMethod yX0_parallels, Cond.selects RX0 yX0_parallels yX0_parallels, Cond.code yX0_parallels cX0_parallels 6 (some .int), Cond.methodLink RX0 184 yX0_moves, Cond.instanceMethod yX0_moves, Cond.selects RX0 yX0_moves yX0_moves, Cond.code yX0_moves cX0_moves 3 (some .boolean), Cond.methodLink RX0 187 yX0_isInterval, Cond.instanceMethod yX0_isInterval, Cond.selects RX0 yX0_isInterval yX0_isInterval, Cond.code yX0_isInterval cX0_isInterval 6 (some .boolean)]
def wsL_told_r4 : List Cond := [Cond.methodLink RX0 123 yX0_pitchOf, Cond.instanceMethod yX0_pitchOf, Cond.selects RX0 yX0_pitchOf yX0_pitchOf, Cond.code yX0_pitchOf cX0_pitchOf 3 (some .int), Cond.fieldLink RX0 13 "FiguredBass" "inMinor" "Z", Cond.fieldLink RX0 145 "FiguredBass" "MINOR" "[I", Cond.fieldLink RX0 148 "FiguredBass" "MAJOR" "[I", Cond.methodLink RX0 178 yX0_isHidden, Cond.instanceMethod yX0_isHidden, Cond.selects RX0 yX0_isHidden yX0_isHidden, Cond.code yX0_isHidden cX0_isHidden 6 (some .boolean), Cond.methodLink RX0 181 yX0_voicesAtFault, Cond.instanceMethod yX0_voicesAtFault, Cond.selects RX0 yX0_voicesAtFault yX0_voicesAtFault, Cond.code yX0_voicesAtFault cX0_voicesAtFault 5 (some .int), Cond.methodLink RX0 190 yX0_isAtFault, Cond.instanceMethod yX0_isAtFault, Cond.selects RX0 yX0_isAtFault yX0_isAtFault, Cond.code yX0_isAtFault cX0_isAtFault 8 (some .boolean)]
def wsL_told : List Cond := .codeWith yL_told cL_told 5 (some .int) [(0, 10, 13, 20)] :: ((wsL_told_r1 ++ (wsL_told_r2 ++ (wsL_told_r3 ++ wsL_told_r4))) ++ wsX00 ++ (vx_atS RX0 63 "java/lang/IndexOutOfBoundsException" ["java/lang/RuntimeException", "java/lang/Exception"]).filter goodWord)
def wsL_faults_r1 : List Cond := [Cond.classLink RL 20 "java/lang/IndexOutOfBoundsException", Cond.methodLink RL 46 yX0_faults, Cond.instanceMethod yX0_faults, Cond.selects RX0 yX0_faults yX0_faults, Cond.initialized RX0, Cond.code yX0_faults cX0_faults 3 (some .int), Cond.classLink RX0 59 "java/lang/IndexOutOfBoundsException", Cond.initialized "java/lang/IndexOutOfBoundsException", Cond.methodLink RX0 56 yX0_isChord, Cond.instanceMethod yX0_isChord, Cond.selects RX0 yX0_isChord yX0_isChord, Cond.code yX0_isChord cX0_isChord 2 (some .boolean), Cond.fieldLink RX0 7 "FiguredBass" "size" "I", Cond.methodLink RX0 77 yX0_isFault, Cond.static yX0_isFault, Cond.code yX0_isFault cX0_isFault 1 (some .boolean), Cond.methodLink RX0 110 yX0_faultsOf, Cond.instanceMethod yX0_faultsOf, Cond.selects RX0 yX0_faultsOf yX0_faultsOf, Cond.code yX0_faultsOf cX0_faultsOf 3 (some .int), Cond.methodLink RX0 161 yX0_follows, Cond.instanceMethod yX0_follows, Cond.selects RX0 yX0_follows yX0_follows, Cond.code yX0_follows cX0_follows 2 (some .boolean)]
def wsL_faults_r2 : List Cond := [Cond.methodLink RX0 154 yX0_isSet, Cond.instanceMethod yX0_isSet, Cond.selects RX0 yX0_isSet yX0_isSet, Cond.code yX0_isSet cX0_isSet 2 (some .boolean), Cond.methodLink RX0 99 yX0_noteAt, Cond.instanceMethod yX0_noteAt, Cond.selects RX0 yX0_noteAt yX0_noteAt, Cond.code yX0_noteAt cX0_noteAt 3 (some .int), Cond.fieldLink RX0 21 "FiguredBass" "notes" "[I", Cond.methodLink RX0 175 yX0_parallels, Cond.instanceMethod yX0_parallels, Cond.selects RX0 yX0_parallels yX0_parallels, Cond.code yX0_parallels cX0_parallels 6 (some .int), Cond.methodLink RX0 184 yX0_moves, Cond.instanceMethod yX0_moves, Cond.selects RX0 yX0_moves yX0_moves, Cond.code yX0_moves cX0_moves 3 (some .boolean), Cond.methodLink RX0 187 yX0_isInterval, Cond.instanceMethod yX0_isInterval, Cond.selects RX0 yX0_isInterval yX0_isInterval, Cond.code yX0_isInterval cX0_isInterval 6 (some .boolean), Cond.methodLink RX0 123 yX0_pitchOf, Cond.instanceMethod yX0_pitchOf, Cond.selects RX0 yX0_pitchOf yX0_pitchOf]
def wsL_faults_r3 : List Cond := [Cond.code yX0_pitchOf cX0_pitchOf 3 (some .int), Cond.fieldLink RX0 13 "FiguredBass" "inMinor" "Z", Cond.fieldLink RX0 145 "FiguredBass" "MINOR" "[I", Cond.fieldLink RX0 148 "FiguredBass" "MAJOR" "[I", Cond.methodLink RX0 178 yX0_isHidden, Cond.instanceMethod yX0_isHidden, Cond.selects RX0 yX0_isHidden yX0_isHidden, Cond.code yX0_isHidden cX0_isHidden 6 (some .boolean), Cond.methodLink RX0 181 yX0_voicesAtFault, Cond.instanceMethod yX0_voicesAtFault, Cond.selects RX0 yX0_voicesAtFault yX0_voicesAtFault, Cond.code yX0_voicesAtFault cX0_voicesAtFault 5 (some .int), Cond.methodLink RX0 190 yX0_isAtFault, Cond.instanceMethod yX0_isAtFault, Cond.selects RX0 yX0_isAtFault yX0_isAtFault, Cond.code yX0_isAtFault cX0_isAtFault 8 (some .boolean), Cond.fieldLink RX0 17 "FiguredBass" "figures" "[I", Cond.methodLink RX0 151 yX0_stepAbove, Cond.static yX0_stepAbove, Cond.code yX0_stepAbove cX0_stepAbove 3 (some .int)]
def wsL_faults : List Cond := .codeWith yL_faults cL_faults 5 (some .int) [(0, 10, 13, 20)] :: ((wsL_faults_r1 ++ (wsL_faults_r2 ++ wsL_faults_r3)) ++ wsX00 ++ (vx_atS RX0 63 "java/lang/IndexOutOfBoundsException" ["java/lang/RuntimeException", "java/lang/Exception"]).filter goodWord)
def wsL_count_r1 : List Cond := [Cond.classLink RL 20 "java/lang/IndexOutOfBoundsException", Cond.methodLink RL 49 yX0_count, Cond.instanceMethod yX0_count, Cond.selects RX0 yX0_count yX0_count, Cond.initialized RX0, Cond.code yX0_count cX0_count 2 (some .int), Cond.classLink RX0 59 "java/lang/IndexOutOfBoundsException", Cond.initialized "java/lang/IndexOutOfBoundsException", Cond.methodLink RX0 115 yX0_countOf, Cond.instanceMethod yX0_countOf, Cond.selects RX0 yX0_countOf yX0_countOf, Cond.code yX0_countOf cX0_countOf 4 (some .int), Cond.fieldLink RX0 13 "FiguredBass" "inMinor" "Z", Cond.fieldLink RX0 7 "FiguredBass" "size" "I", Cond.methodLink RX0 154 yX0_isSet, Cond.instanceMethod yX0_isSet, Cond.selects RX0 yX0_isSet yX0_isSet, Cond.code yX0_isSet cX0_isSet 2 (some .boolean), Cond.methodLink RX0 56 yX0_isChord, Cond.instanceMethod yX0_isChord, Cond.selects RX0 yX0_isChord yX0_isChord, Cond.code yX0_isChord cX0_isChord 2 (some .boolean), Cond.methodLink RX0 99 yX0_noteAt, Cond.instanceMethod yX0_noteAt]
def wsL_count_r2 : List Cond := [Cond.selects RX0 yX0_noteAt yX0_noteAt, Cond.code yX0_noteAt cX0_noteAt 3 (some .int), Cond.fieldLink RX0 21 "FiguredBass" "notes" "[I", Cond.methodLink RX0 169 yX0_isRight, Cond.instanceMethod yX0_isRight, Cond.selects RX0 yX0_isRight yX0_isRight, Cond.code yX0_isRight cX0_isRight 2 (some .boolean), Cond.methodLink RX0 157 yX0_isRightWith, Cond.instanceMethod yX0_isRightWith, Cond.selects RX0 yX0_isRightWith yX0_isRightWith, Cond.code yX0_isRightWith cX0_isRightWith 7 (some .boolean), Cond.fieldLink RX0 132 "FiguredBass" "FIGURE_STEPS" "[I", Cond.fieldLink RX0 17 "FiguredBass" "figures" "[I", Cond.methodLink RX0 151 yX0_stepAbove, Cond.static yX0_stepAbove, Cond.code yX0_stepAbove cX0_stepAbove 3 (some .int), Cond.methodLink RX0 172 yX0_stepsGone, Cond.instanceMethod yX0_stepsGone, Cond.selects RX0 yX0_stepsGone yX0_stepsGone, Cond.code yX0_stepsGone cX0_stepsGone 4 (some .int), Cond.methodLink RX0 164 Lib.Math.abs.name, Cond.static Lib.Math.abs.name, Cond.initialized "java/lang/Math", Cond.code Lib.Math.abs.name Lib.Math.abs.code 1 (some .int)]
def wsL_count_r3 : List Cond := [Cond.methodLink RX0 161 yX0_follows, Cond.instanceMethod yX0_follows, Cond.selects RX0 yX0_follows yX0_follows, Cond.code yX0_follows cX0_follows 2 (some .boolean), Cond.methodLink RX0 201 yX0_allFaultsOf, Cond.instanceMethod yX0_allFaultsOf, Cond.selects RX0 yX0_allFaultsOf yX0_allFaultsOf, Cond.code yX0_allFaultsOf cX0_allFaultsOf 4 (some .int), Cond.methodLink RX0 110 yX0_faultsOf, Cond.instanceMethod yX0_faultsOf, Cond.selects RX0 yX0_faultsOf yX0_faultsOf, Cond.code yX0_faultsOf cX0_faultsOf 3 (some .int), Cond.methodLink RX0 175 yX0_parallels, Cond.instanceMethod yX0_parallels, Cond.selects RX0 yX0_parallels yX0_parallels, Cond.code yX0_parallels cX0_parallels 6 (some .int), Cond.methodLink RX0 184 yX0_moves, Cond.instanceMethod yX0_moves, Cond.selects RX0 yX0_moves yX0_moves, Cond.code yX0_moves cX0_moves 3 (some .boolean), Cond.methodLink RX0 187 yX0_isInterval, Cond.instanceMethod yX0_isInterval, Cond.selects RX0 yX0_isInterval yX0_isInterval, Cond.code yX0_isInterval cX0_isInterval 6 (some .boolean)]
def wsL_count_r4 : List Cond := [Cond.methodLink RX0 123 yX0_pitchOf, Cond.instanceMethod yX0_pitchOf, Cond.selects RX0 yX0_pitchOf yX0_pitchOf, Cond.code yX0_pitchOf cX0_pitchOf 3 (some .int), Cond.fieldLink RX0 145 "FiguredBass" "MINOR" "[I", Cond.fieldLink RX0 148 "FiguredBass" "MAJOR" "[I", Cond.methodLink RX0 178 yX0_isHidden, Cond.instanceMethod yX0_isHidden, Cond.selects RX0 yX0_isHidden yX0_isHidden, Cond.code yX0_isHidden cX0_isHidden 6 (some .boolean), Cond.methodLink RX0 181 yX0_voicesAtFault, Cond.instanceMethod yX0_voicesAtFault, Cond.selects RX0 yX0_voicesAtFault yX0_voicesAtFault, Cond.code yX0_voicesAtFault cX0_voicesAtFault 5 (some .int), Cond.methodLink RX0 190 yX0_isAtFault, Cond.instanceMethod yX0_isAtFault, Cond.selects RX0 yX0_isAtFault yX0_isAtFault, Cond.code yX0_isAtFault cX0_isAtFault 8 (some .boolean), Cond.methodLink RX0 94 yX0_costOf, Cond.instanceMethod yX0_costOf, Cond.selects RX0 yX0_costOf yX0_costOf, Cond.code yX0_costOf cX0_costOf 4 (some .int), Cond.fieldLink RX0 24 "FiguredBass" "weights" "[I"]
def wsL_count : List Cond := .codeWith yL_count cL_count 4 (some .int) [(0, 9, 12, 20)] :: ((wsL_count_r1 ++ (wsL_count_r2 ++ (wsL_count_r3 ++ wsL_count_r4))) ++ wsX00 ++ (vx_atS RX0 63 "java/lang/IndexOutOfBoundsException" ["java/lang/RuntimeException", "java/lang/Exception"]).filter goodWord)
def wsL_pitch : List Cond := .codeWith yL_pitch cL_pitch 4 (some .int) [(0, 9, 12, 13)] :: ([.classLink RL 13 "java/lang/IllegalArgumentException", .methodLink RL 52 yX0_pitch, .instanceMethod yX0_pitch, .selects RX0 yX0_pitch yX0_pitch, .initialized RX0, .code yX0_pitch cX0_pitch 2 (some .int), .classLink RX0 34 "java/lang/IllegalArgumentException", .initialized "java/lang/IllegalArgumentException", .methodLink RX0 118 yX0_isNote, .static yX0_isNote, .code yX0_isNote cX0_isNote 1 (some .boolean), .methodLink RX0 123 yX0_pitchOf, .instanceMethod yX0_pitchOf, .selects RX0 yX0_pitchOf yX0_pitchOf, .code yX0_pitchOf cX0_pitchOf 3 (some .int), .fieldLink RX0 13 "FiguredBass" "inMinor" "Z", .fieldLink RX0 145 "FiguredBass" "MINOR" "[I", .fieldLink RX0 148 "FiguredBass" "MAJOR" "[I"] ++ wsX00 ++ (vx_atS RX0 38 "java/lang/IllegalArgumentException" ["java/lang/RuntimeException", "java/lang/Exception"]).filter goodWord)
def wsL_fits_r1 : List Cond := [Cond.classLink RL 20 "java/lang/IndexOutOfBoundsException", Cond.classLink RL 13 "java/lang/IllegalArgumentException", Cond.methodLink RL 55 yX0_fits, Cond.instanceMethod yX0_fits, Cond.selects RX0 yX0_fits yX0_fits, Cond.initialized RX0, Cond.code yX0_fits cX0_fits 4 (some .boolean), Cond.classLink RX0 59 "java/lang/IndexOutOfBoundsException", Cond.initialized "java/lang/IndexOutOfBoundsException", Cond.classLink RX0 34 "java/lang/IllegalArgumentException", Cond.initialized "java/lang/IllegalArgumentException", Cond.methodLink RX0 56 yX0_isChord, Cond.instanceMethod yX0_isChord, Cond.selects RX0 yX0_isChord yX0_isChord, Cond.code yX0_isChord cX0_isChord 2 (some .boolean), Cond.fieldLink RX0 7 "FiguredBass" "size" "I", Cond.methodLink RX0 68 yX0_isUpperVoice, Cond.static yX0_isUpperVoice, Cond.code yX0_isUpperVoice cX0_isUpperVoice 1 (some .boolean), Cond.methodLink RX0 118 yX0_isNote, Cond.static yX0_isNote, Cond.code yX0_isNote cX0_isNote 1 (some .boolean), Cond.methodLink RX0 30 yX0_isNoteOf, Cond.static yX0_isNoteOf]
def wsL_fits_r2 : List Cond := [Cond.code yX0_isNoteOf cX0_isNoteOf 2 (some .boolean), Cond.fieldLink RX0 139 "FiguredBass" "LOWEST" "[I", Cond.fieldLink RX0 142 "FiguredBass" "HIGHEST" "[I", Cond.methodLink RX0 126 yX0_belongs, Cond.instanceMethod yX0_belongs, Cond.selects RX0 yX0_belongs yX0_belongs, Cond.code yX0_belongs cX0_belongs 4 (some .boolean), Cond.fieldLink RX0 132 "FiguredBass" "FIGURE_STEPS" "[I", Cond.fieldLink RX0 17 "FiguredBass" "figures" "[I", Cond.methodLink RX0 99 yX0_noteAt, Cond.instanceMethod yX0_noteAt, Cond.selects RX0 yX0_noteAt yX0_noteAt, Cond.code yX0_noteAt cX0_noteAt 3 (some .int), Cond.fieldLink RX0 21 "FiguredBass" "notes" "[I", Cond.methodLink RX0 151 yX0_stepAbove, Cond.static yX0_stepAbove, Cond.code yX0_stepAbove cX0_stepAbove 3 (some .int)]
def wsL_fits : List Cond := .codeWith yL_fits cL_fits 6 (some .int) [(0, 19, 22, 20), (0, 19, 26, 13)] :: ((wsL_fits_r1 ++ wsL_fits_r2) ++ wsX00 ++ (vx_atS RX0 63 "java/lang/IndexOutOfBoundsException" ["java/lang/RuntimeException", "java/lang/Exception"]).filter goodWord ++ (vx_atS RX0 38 "java/lang/IllegalArgumentException" ["java/lang/RuntimeException", "java/lang/Exception"]).filter goodWord)
def wsL_ways_r1 : List Cond := [Cond.classLink RL 20 "java/lang/IndexOutOfBoundsException", Cond.methodLink RL 59 yX0_ways, Cond.instanceMethod yX0_ways, Cond.selects RX0 yX0_ways yX0_ways, Cond.initialized RX0, Cond.code yX0_ways cX0_ways 2 (some .int), Cond.classLink RX0 59 "java/lang/IndexOutOfBoundsException", Cond.initialized "java/lang/IndexOutOfBoundsException", Cond.methodLink RX0 56 yX0_isChord, Cond.instanceMethod yX0_isChord, Cond.selects RX0 yX0_isChord yX0_isChord, Cond.code yX0_isChord cX0_isChord 2 (some .boolean), Cond.fieldLink RX0 7 "FiguredBass" "size" "I", Cond.methodLink RX0 129 yX0_listWays, Cond.instanceMethod yX0_listWays, Cond.selects RX0 yX0_listWays yX0_listWays, Cond.code yX0_listWays cX0_listWays 5 (some .int), Cond.fieldLink RX0 139 "FiguredBass" "LOWEST" "[I", Cond.fieldLink RX0 142 "FiguredBass" "HIGHEST" "[I", Cond.methodLink RX0 194 Lib.Math.max.name, Cond.static Lib.Math.max.name, Cond.initialized "java/lang/Math", Cond.code Lib.Math.max.name Lib.Math.max.code 2 (some .int), Cond.methodLink RX0 126 yX0_belongs]
def wsL_ways_r2 : List Cond := [Cond.instanceMethod yX0_belongs, Cond.selects RX0 yX0_belongs yX0_belongs, Cond.code yX0_belongs cX0_belongs 4 (some .boolean), Cond.fieldLink RX0 132 "FiguredBass" "FIGURE_STEPS" "[I", Cond.fieldLink RX0 17 "FiguredBass" "figures" "[I", Cond.methodLink RX0 99 yX0_noteAt, Cond.instanceMethod yX0_noteAt, Cond.selects RX0 yX0_noteAt yX0_noteAt, Cond.code yX0_noteAt cX0_noteAt 3 (some .int), Cond.fieldLink RX0 21 "FiguredBass" "notes" "[I", Cond.methodLink RX0 151 yX0_stepAbove, Cond.static yX0_stepAbove, Cond.code yX0_stepAbove cX0_stepAbove 3 (some .int), Cond.methodLink RX0 197 yX0_listSopranos, Cond.instanceMethod yX0_listSopranos, Cond.selects RX0 yX0_listSopranos yX0_listSopranos, Cond.code yX0_listSopranos cX0_listSopranos 7 (some .int), Cond.fieldLink RX0 27 "FiguredBass" "wayList" "[I", Cond.methodLink RX0 157 yX0_isRightWith, Cond.instanceMethod yX0_isRightWith, Cond.selects RX0 yX0_isRightWith yX0_isRightWith, Cond.code yX0_isRightWith cX0_isRightWith 7 (some .boolean)]
def wsL_ways : List Cond := .codeWith yL_ways cL_ways 4 (some .int) [(0, 9, 12, 20)] :: ((wsL_ways_r1 ++ wsL_ways_r2) ++ wsX00 ++ (vx_atS RX0 63 "java/lang/IndexOutOfBoundsException" ["java/lang/RuntimeException", "java/lang/Exception"]).filter goodWord)
def wsL_would_r1 : List Cond := [Cond.classLink RL 20 "java/lang/IndexOutOfBoundsException", Cond.classLink RL 13 "java/lang/IllegalArgumentException", Cond.methodLink RL 62 yX0_would, Cond.instanceMethod yX0_would, Cond.selects RX0 yX0_would yX0_would, Cond.initialized RX0, Cond.code yX0_would cX0_would 6 (some .int), Cond.classLink RX0 59 "java/lang/IndexOutOfBoundsException", Cond.initialized "java/lang/IndexOutOfBoundsException", Cond.classLink RX0 34 "java/lang/IllegalArgumentException", Cond.initialized "java/lang/IllegalArgumentException", Cond.methodLink RX0 56 yX0_isChord, Cond.instanceMethod yX0_isChord, Cond.selects RX0 yX0_isChord yX0_isChord, Cond.code yX0_isChord cX0_isChord 2 (some .boolean), Cond.fieldLink RX0 7 "FiguredBass" "size" "I", Cond.methodLink RX0 68 yX0_isUpperVoice, Cond.static yX0_isUpperVoice, Cond.code yX0_isUpperVoice cX0_isUpperVoice 1 (some .boolean), Cond.methodLink RX0 30 yX0_isNoteOf, Cond.static yX0_isNoteOf, Cond.code yX0_isNoteOf cX0_isNoteOf 2 (some .boolean), Cond.fieldLink RX0 139 "FiguredBass" "LOWEST" "[I", Cond.fieldLink RX0 142 "FiguredBass" "HIGHEST" "[I"]
def wsL_would_r2 : List Cond := [Cond.methodLink RX0 64 yX0_exchangeNote, Cond.instanceMethod yX0_exchangeNote, Cond.selects RX0 yX0_exchangeNote yX0_exchangeNote, Cond.code yX0_exchangeNote cX0_exchangeNote 5 (some .int), Cond.fieldLink RX0 21 "FiguredBass" "notes" "[I", Cond.methodLink RX0 115 yX0_countOf, Cond.instanceMethod yX0_countOf, Cond.selects RX0 yX0_countOf yX0_countOf, Cond.code yX0_countOf cX0_countOf 4 (some .int), Cond.fieldLink RX0 13 "FiguredBass" "inMinor" "Z", Cond.methodLink RX0 154 yX0_isSet, Cond.instanceMethod yX0_isSet, Cond.selects RX0 yX0_isSet yX0_isSet, Cond.code yX0_isSet cX0_isSet 2 (some .boolean), Cond.methodLink RX0 99 yX0_noteAt, Cond.instanceMethod yX0_noteAt, Cond.selects RX0 yX0_noteAt yX0_noteAt, Cond.code yX0_noteAt cX0_noteAt 3 (some .int), Cond.methodLink RX0 169 yX0_isRight, Cond.instanceMethod yX0_isRight, Cond.selects RX0 yX0_isRight yX0_isRight, Cond.code yX0_isRight cX0_isRight 2 (some .boolean), Cond.methodLink RX0 157 yX0_isRightWith, Cond.instanceMethod yX0_isRightWith]
def wsL_would_r3 : List Cond := [Cond.selects RX0 yX0_isRightWith yX0_isRightWith, Cond.code yX0_isRightWith cX0_isRightWith 7 (some .boolean), Cond.fieldLink RX0 132 "FiguredBass" "FIGURE_STEPS" "[I", Cond.fieldLink RX0 17 "FiguredBass" "figures" "[I", Cond.methodLink RX0 151 yX0_stepAbove, Cond.static yX0_stepAbove, Cond.code yX0_stepAbove cX0_stepAbove 3 (some .int), Cond.methodLink RX0 172 yX0_stepsGone, Cond.instanceMethod yX0_stepsGone, Cond.selects RX0 yX0_stepsGone yX0_stepsGone, Cond.code yX0_stepsGone cX0_stepsGone 4 (some .int), Cond.methodLink RX0 164 Lib.Math.abs.name, Cond.static Lib.Math.abs.name, Cond.initialized "java/lang/Math", Cond.code Lib.Math.abs.name Lib.Math.abs.code 1 (some .int), Cond.methodLink RX0 161 yX0_follows, Cond.instanceMethod yX0_follows, Cond.selects RX0 yX0_follows yX0_follows, Cond.code yX0_follows cX0_follows 2 (some .boolean), Cond.methodLink RX0 201 yX0_allFaultsOf, Cond.instanceMethod yX0_allFaultsOf, Cond.selects RX0 yX0_allFaultsOf yX0_allFaultsOf, Cond.code yX0_allFaultsOf cX0_allFaultsOf 4 (some .int), Cond.methodLink RX0 110 yX0_faultsOf]
def wsL_would_r4 : List Cond := [Cond.instanceMethod yX0_faultsOf, Cond.selects RX0 yX0_faultsOf yX0_faultsOf, Cond.code yX0_faultsOf cX0_faultsOf 3 (some .int), Cond.methodLink RX0 175 yX0_parallels, Cond.instanceMethod yX0_parallels, Cond.selects RX0 yX0_parallels yX0_parallels, Cond.code yX0_parallels cX0_parallels 6 (some .int), Cond.methodLink RX0 184 yX0_moves, Cond.instanceMethod yX0_moves, Cond.selects RX0 yX0_moves yX0_moves, Cond.code yX0_moves cX0_moves 3 (some .boolean), Cond.methodLink RX0 187 yX0_isInterval, Cond.instanceMethod yX0_isInterval, Cond.selects RX0 yX0_isInterval yX0_isInterval, Cond.code yX0_isInterval cX0_isInterval 6 (some .boolean), Cond.methodLink RX0 123 yX0_pitchOf, Cond.instanceMethod yX0_pitchOf, Cond.selects RX0 yX0_pitchOf yX0_pitchOf, Cond.code yX0_pitchOf cX0_pitchOf 3 (some .int), Cond.fieldLink RX0 145 "FiguredBass" "MINOR" "[I", Cond.fieldLink RX0 148 "FiguredBass" "MAJOR" "[I", Cond.methodLink RX0 178 yX0_isHidden, Cond.instanceMethod yX0_isHidden, Cond.selects RX0 yX0_isHidden yX0_isHidden]
def wsL_would_r5 : List Cond := [Cond.code yX0_isHidden cX0_isHidden 6 (some .boolean), Cond.methodLink RX0 181 yX0_voicesAtFault, Cond.instanceMethod yX0_voicesAtFault, Cond.selects RX0 yX0_voicesAtFault yX0_voicesAtFault, Cond.code yX0_voicesAtFault cX0_voicesAtFault 5 (some .int), Cond.methodLink RX0 190 yX0_isAtFault, Cond.instanceMethod yX0_isAtFault, Cond.selects RX0 yX0_isAtFault yX0_isAtFault, Cond.code yX0_isAtFault cX0_isAtFault 8 (some .boolean), Cond.methodLink RX0 94 yX0_costOf, Cond.instanceMethod yX0_costOf, Cond.selects RX0 yX0_costOf yX0_costOf, Cond.code yX0_costOf cX0_costOf 4 (some .int), Cond.fieldLink RX0 24 "FiguredBass" "weights" "[I"]
def wsL_would : List Cond := .codeWith yL_would cL_would 6 (some .int) [(0, 12, 15, 20), (0, 12, 19, 13)] :: ((wsL_would_r1 ++ (wsL_would_r2 ++ (wsL_would_r3 ++ (wsL_would_r4 ++ wsL_would_r5)))) ++ wsX00 ++ (vx_atS RX0 63 "java/lang/IndexOutOfBoundsException" ["java/lang/RuntimeException", "java/lang/Exception"]).filter goodWord ++ (vx_atS RX0 38 "java/lang/IllegalArgumentException" ["java/lang/RuntimeException", "java/lang/Exception"]).filter goodWord)
def wsL_best_r1 : List Cond := [Cond.classLink RL 20 "java/lang/IndexOutOfBoundsException", Cond.methodLink RL 65 yX0_best, Cond.instanceMethod yX0_best, Cond.selects RX0 yX0_best yX0_best, Cond.initialized RX0, Cond.code yX0_best cX0_best 2 (some .int), Cond.classLink RX0 59 "java/lang/IndexOutOfBoundsException", Cond.initialized "java/lang/IndexOutOfBoundsException", Cond.methodLink RX0 56 yX0_isChord, Cond.instanceMethod yX0_isChord, Cond.selects RX0 yX0_isChord yX0_isChord, Cond.code yX0_isChord cX0_isChord 2 (some .boolean), Cond.fieldLink RX0 7 "FiguredBass" "size" "I", Cond.methodLink RX0 84 yX0_bestWay, Cond.instanceMethod yX0_bestWay, Cond.selects RX0 yX0_bestWay yX0_bestWay, Cond.code yX0_bestWay cX0_bestWay 10 (some .int), Cond.fieldLink RX0 27 "FiguredBass" "wayList" "[I", Cond.methodLink RX0 99 yX0_noteAt, Cond.instanceMethod yX0_noteAt, Cond.selects RX0 yX0_noteAt yX0_noteAt, Cond.code yX0_noteAt cX0_noteAt 3 (some .int), Cond.fieldLink RX0 21 "FiguredBass" "notes" "[I", Cond.methodLink RX0 129 yX0_listWays]
def wsL_best_r2 : List Cond := [Cond.instanceMethod yX0_listWays, Cond.selects RX0 yX0_listWays yX0_listWays, Cond.code yX0_listWays cX0_listWays 5 (some .int), Cond.fieldLink RX0 139 "FiguredBass" "LOWEST" "[I", Cond.fieldLink RX0 142 "FiguredBass" "HIGHEST" "[I", Cond.methodLink RX0 194 Lib.Math.max.name, Cond.static Lib.Math.max.name, Cond.initialized "java/lang/Math", Cond.code Lib.Math.max.name Lib.Math.max.code 2 (some .int), Cond.methodLink RX0 126 yX0_belongs, Cond.instanceMethod yX0_belongs, Cond.selects RX0 yX0_belongs yX0_belongs, Cond.code yX0_belongs cX0_belongs 4 (some .boolean), Cond.fieldLink RX0 132 "FiguredBass" "FIGURE_STEPS" "[I", Cond.fieldLink RX0 17 "FiguredBass" "figures" "[I", Cond.methodLink RX0 151 yX0_stepAbove, Cond.static yX0_stepAbove, Cond.code yX0_stepAbove cX0_stepAbove 3 (some .int), Cond.methodLink RX0 197 yX0_listSopranos, Cond.instanceMethod yX0_listSopranos, Cond.selects RX0 yX0_listSopranos yX0_listSopranos, Cond.code yX0_listSopranos cX0_listSopranos 7 (some .int), Cond.methodLink RX0 157 yX0_isRightWith, Cond.instanceMethod yX0_isRightWith]
def wsL_best_r3 : List Cond := [Cond.selects RX0 yX0_isRightWith yX0_isRightWith, Cond.code yX0_isRightWith cX0_isRightWith 7 (some .boolean), Cond.methodLink RX0 90 yX0_putWay, Cond.instanceMethod yX0_putWay, Cond.selects RX0 yX0_putWay yX0_putWay, Cond.code yX0_putWay cX0_putWay 3 none, Cond.methodLink RX0 52 yX0_putNotes, Cond.instanceMethod yX0_putNotes, Cond.selects RX0 yX0_putNotes yX0_putNotes, Cond.code yX0_putNotes cX0_putNotes 5 none, Cond.methodLink RX0 94 yX0_costOf, Cond.instanceMethod yX0_costOf, Cond.selects RX0 yX0_costOf yX0_costOf, Cond.code yX0_costOf cX0_costOf 4 (some .int), Cond.fieldLink RX0 24 "FiguredBass" "weights" "[I", Cond.methodLink RX0 154 yX0_isSet, Cond.instanceMethod yX0_isSet, Cond.selects RX0 yX0_isSet yX0_isSet, Cond.code yX0_isSet cX0_isSet 2 (some .boolean), Cond.methodLink RX0 169 yX0_isRight, Cond.instanceMethod yX0_isRight, Cond.selects RX0 yX0_isRight yX0_isRight, Cond.code yX0_isRight cX0_isRight 2 (some .boolean), Cond.methodLink RX0 172 yX0_stepsGone]
def wsL_best_r4 : List Cond := [Cond.instanceMethod yX0_stepsGone, Cond.selects RX0 yX0_stepsGone yX0_stepsGone, Cond.code yX0_stepsGone cX0_stepsGone 4 (some .int), Cond.methodLink RX0 164 Lib.Math.abs.name, Cond.static Lib.Math.abs.name, Cond.code Lib.Math.abs.name Lib.Math.abs.code 1 (some .int), Cond.methodLink RX0 161 yX0_follows, Cond.instanceMethod yX0_follows, Cond.selects RX0 yX0_follows yX0_follows, Cond.code yX0_follows cX0_follows 2 (some .boolean), Cond.methodLink RX0 110 yX0_faultsOf, Cond.instanceMethod yX0_faultsOf, Cond.selects RX0 yX0_faultsOf yX0_faultsOf, Cond.code yX0_faultsOf cX0_faultsOf 3 (some .int), Cond.methodLink RX0 175 yX0_parallels, Cond.instanceMethod yX0_parallels, Cond.selects RX0 yX0_parallels yX0_parallels, Cond.code yX0_parallels cX0_parallels 6 (some .int), Cond.methodLink RX0 184 yX0_moves, Cond.instanceMethod yX0_moves, Cond.selects RX0 yX0_moves yX0_moves, Cond.code yX0_moves cX0_moves 3 (some .boolean), Cond.methodLink RX0 187 yX0_isInterval, Cond.instanceMethod yX0_isInterval]
def wsL_best_r5 : List Cond := [Cond.selects RX0 yX0_isInterval yX0_isInterval, Cond.code yX0_isInterval cX0_isInterval 6 (some .boolean), Cond.methodLink RX0 123 yX0_pitchOf, Cond.instanceMethod yX0_pitchOf, Cond.selects RX0 yX0_pitchOf yX0_pitchOf, Cond.code yX0_pitchOf cX0_pitchOf 3 (some .int), Cond.fieldLink RX0 13 "FiguredBass" "inMinor" "Z", Cond.fieldLink RX0 145 "FiguredBass" "MINOR" "[I", Cond.fieldLink RX0 148 "FiguredBass" "MAJOR" "[I", Cond.methodLink RX0 178 yX0_isHidden, Cond.instanceMethod yX0_isHidden, Cond.selects RX0 yX0_isHidden yX0_isHidden, Cond.code yX0_isHidden cX0_isHidden 6 (some .boolean), Cond.methodLink RX0 181 yX0_voicesAtFault, Cond.instanceMethod yX0_voicesAtFault, Cond.selects RX0 yX0_voicesAtFault yX0_voicesAtFault, Cond.code yX0_voicesAtFault cX0_voicesAtFault 5 (some .int), Cond.methodLink RX0 190 yX0_isAtFault, Cond.instanceMethod yX0_isAtFault, Cond.selects RX0 yX0_isAtFault yX0_isAtFault, Cond.code yX0_isAtFault cX0_isAtFault 8 (some .boolean)]
def wsL_best : List Cond := .codeWith yL_best cL_best 4 (some .int) [(0, 9, 12, 20)] :: ((wsL_best_r1 ++ (wsL_best_r2 ++ (wsL_best_r3 ++ (wsL_best_r4 ++ wsL_best_r5)))) ++ wsX00 ++ (vx_atS RX0 63 "java/lang/IndexOutOfBoundsException" ["java/lang/RuntimeException", "java/lang/Exception"]).filter goodWord)
def wsL_advise_r1 : List Cond := [Cond.classLink RL 20 "java/lang/IndexOutOfBoundsException", Cond.methodLink RL 68 yX0_advise, Cond.instanceMethod yX0_advise, Cond.selects RX0 yX0_advise yX0_advise, Cond.initialized RX0, Cond.code yX0_advise cX0_advise 11 (some .int), Cond.classLink RX0 59 "java/lang/IndexOutOfBoundsException", Cond.initialized "java/lang/IndexOutOfBoundsException", Cond.fieldLink RX0 17 "FiguredBass" "figures" "[I", Cond.fieldLink RX0 132 "FiguredBass" "FIGURE_STEPS" "[I", Cond.methodLink RX0 56 yX0_isChord, Cond.instanceMethod yX0_isChord, Cond.selects RX0 yX0_isChord yX0_isChord, Cond.code yX0_isChord cX0_isChord 2 (some .boolean), Cond.fieldLink RX0 7 "FiguredBass" "size" "I", Cond.methodLink RX0 99 yX0_noteAt, Cond.instanceMethod yX0_noteAt, Cond.selects RX0 yX0_noteAt yX0_noteAt, Cond.code yX0_noteAt cX0_noteAt 3 (some .int), Cond.fieldLink RX0 21 "FiguredBass" "notes" "[I", Cond.methodLink RX0 84 yX0_bestWay, Cond.instanceMethod yX0_bestWay, Cond.selects RX0 yX0_bestWay yX0_bestWay, Cond.code yX0_bestWay cX0_bestWay 10 (some .int)]
def wsL_advise_r2 : List Cond := [Cond.fieldLink RX0 27 "FiguredBass" "wayList" "[I", Cond.methodLink RX0 129 yX0_listWays, Cond.instanceMethod yX0_listWays, Cond.selects RX0 yX0_listWays yX0_listWays, Cond.code yX0_listWays cX0_listWays 5 (some .int), Cond.fieldLink RX0 139 "FiguredBass" "LOWEST" "[I", Cond.fieldLink RX0 142 "FiguredBass" "HIGHEST" "[I", Cond.methodLink RX0 194 Lib.Math.max.name, Cond.static Lib.Math.max.name, Cond.initialized "java/lang/Math", Cond.code Lib.Math.max.name Lib.Math.max.code 2 (some .int), Cond.methodLink RX0 126 yX0_belongs, Cond.instanceMethod yX0_belongs, Cond.selects RX0 yX0_belongs yX0_belongs, Cond.code yX0_belongs cX0_belongs 4 (some .boolean), Cond.methodLink RX0 151 yX0_stepAbove, Cond.static yX0_stepAbove, Cond.code yX0_stepAbove cX0_stepAbove 3 (some .int), Cond.methodLink RX0 197 yX0_listSopranos, Cond.instanceMethod yX0_listSopranos, Cond.selects RX0 yX0_listSopranos yX0_listSopranos, Cond.code yX0_listSopranos cX0_listSopranos 7 (some .int), Cond.methodLink RX0 157 yX0_isRightWith, Cond.instanceMethod yX0_isRightWith]
def wsL_advise_r3 : List Cond := [Cond.selects RX0 yX0_isRightWith yX0_isRightWith, Cond.code yX0_isRightWith cX0_isRightWith 7 (some .boolean), Cond.methodLink RX0 90 yX0_putWay, Cond.instanceMethod yX0_putWay, Cond.selects RX0 yX0_putWay yX0_putWay, Cond.code yX0_putWay cX0_putWay 3 none, Cond.methodLink RX0 52 yX0_putNotes, Cond.instanceMethod yX0_putNotes, Cond.selects RX0 yX0_putNotes yX0_putNotes, Cond.code yX0_putNotes cX0_putNotes 5 none, Cond.methodLink RX0 94 yX0_costOf, Cond.instanceMethod yX0_costOf, Cond.selects RX0 yX0_costOf yX0_costOf, Cond.code yX0_costOf cX0_costOf 4 (some .int), Cond.fieldLink RX0 24 "FiguredBass" "weights" "[I", Cond.methodLink RX0 154 yX0_isSet, Cond.instanceMethod yX0_isSet, Cond.selects RX0 yX0_isSet yX0_isSet, Cond.code yX0_isSet cX0_isSet 2 (some .boolean), Cond.methodLink RX0 169 yX0_isRight, Cond.instanceMethod yX0_isRight, Cond.selects RX0 yX0_isRight yX0_isRight, Cond.code yX0_isRight cX0_isRight 2 (some .boolean), Cond.methodLink RX0 172 yX0_stepsGone]
def wsL_advise_r4 : List Cond := [Cond.instanceMethod yX0_stepsGone, Cond.selects RX0 yX0_stepsGone yX0_stepsGone, Cond.code yX0_stepsGone cX0_stepsGone 4 (some .int), Cond.methodLink RX0 164 Lib.Math.abs.name, Cond.static Lib.Math.abs.name, Cond.code Lib.Math.abs.name Lib.Math.abs.code 1 (some .int), Cond.methodLink RX0 161 yX0_follows, Cond.instanceMethod yX0_follows, Cond.selects RX0 yX0_follows yX0_follows, Cond.code yX0_follows cX0_follows 2 (some .boolean), Cond.methodLink RX0 110 yX0_faultsOf, Cond.instanceMethod yX0_faultsOf, Cond.selects RX0 yX0_faultsOf yX0_faultsOf, Cond.code yX0_faultsOf cX0_faultsOf 3 (some .int), Cond.methodLink RX0 175 yX0_parallels, Cond.instanceMethod yX0_parallels, Cond.selects RX0 yX0_parallels yX0_parallels, Cond.code yX0_parallels cX0_parallels 6 (some .int), Cond.methodLink RX0 184 yX0_moves, Cond.instanceMethod yX0_moves, Cond.selects RX0 yX0_moves yX0_moves, Cond.code yX0_moves cX0_moves 3 (some .boolean), Cond.methodLink RX0 187 yX0_isInterval, Cond.instanceMethod yX0_isInterval]
def wsL_advise_r5 : List Cond := [Cond.selects RX0 yX0_isInterval yX0_isInterval, Cond.code yX0_isInterval cX0_isInterval 6 (some .boolean), Cond.methodLink RX0 123 yX0_pitchOf, Cond.instanceMethod yX0_pitchOf, Cond.selects RX0 yX0_pitchOf yX0_pitchOf, Cond.code yX0_pitchOf cX0_pitchOf 3 (some .int), Cond.fieldLink RX0 13 "FiguredBass" "inMinor" "Z", Cond.fieldLink RX0 145 "FiguredBass" "MINOR" "[I", Cond.fieldLink RX0 148 "FiguredBass" "MAJOR" "[I", Cond.methodLink RX0 178 yX0_isHidden, Cond.instanceMethod yX0_isHidden, Cond.selects RX0 yX0_isHidden yX0_isHidden, Cond.code yX0_isHidden cX0_isHidden 6 (some .boolean), Cond.methodLink RX0 181 yX0_voicesAtFault, Cond.instanceMethod yX0_voicesAtFault, Cond.selects RX0 yX0_voicesAtFault yX0_voicesAtFault, Cond.code yX0_voicesAtFault cX0_voicesAtFault 5 (some .int), Cond.methodLink RX0 190 yX0_isAtFault, Cond.instanceMethod yX0_isAtFault, Cond.selects RX0 yX0_isAtFault yX0_isAtFault, Cond.code yX0_isAtFault cX0_isAtFault 8 (some .boolean)]
def wsL_advise : List Cond := .codeWith yL_advise cL_advise 4 (some .int) [(0, 9, 12, 20)] :: ((wsL_advise_r1 ++ (wsL_advise_r2 ++ (wsL_advise_r3 ++ (wsL_advise_r4 ++ wsL_advise_r5)))) ++ wsX00 ++ (vx_atS RX0 63 "java/lang/IndexOutOfBoundsException" ["java/lang/RuntimeException", "java/lang/Exception"]).filter goodWord)
def wsL_law0_r1 : List Cond := [Cond.classLink RL 8 RX0, Cond.instantiable RX0 6, Cond.initialized RX0, Cond.classLink RL 72 RX1, Cond.instantiable RX1 6, Cond.initialized RX1, Cond.arrayClass .long, Cond.methodLink RL 71 yX0_init, Cond.instanceMethod yX0_init, Cond.code yX0_init cX0_init 2 none, Cond.methodLink RX0 1 objectInit, Cond.instanceMethod objectInit, Cond.code objectInit ⟨#[0xb1]⟩ 1 none, Cond.fieldLink RX0 7 "FiguredBass" "size" "I", Cond.fieldLink RX0 13 "FiguredBass" "inMinor" "Z", Cond.arrayClass .int, Cond.fieldLink RX0 17 "FiguredBass" "figures" "[I", Cond.fieldLink RX0 21 "FiguredBass" "notes" "[I", Cond.fieldLink RX0 24 "FiguredBass" "weights" "[I", Cond.fieldLink RX0 27 "FiguredBass" "wayList" "[I", Cond.methodLink RL 74 yX1_init, Cond.instanceMethod yX1_init, Cond.code yX1_init cX1_init 1 none, Cond.methodLink RX1 1 objectInit]
def wsL_law0_r2 : List Cond := [Cond.fieldLink RX1 9 "FiguredBassModel" "notes" "[I", Cond.fieldLink RX1 13 "FiguredBassModel" "figures" "[I", Cond.fieldLink RX1 16 "FiguredBassModel" "weights" "[I", Cond.methodLink RL 75 yL_chord, Cond.static yL_chord, Cond.initialized RL, Cond.codeWith yL_chord cL_chord 5 (some .int) [(0, 10, 13, 13), (0, 10, 17, 15)], Cond.classLink RL 13 "java/lang/IllegalArgumentException", Cond.classLink RL 15 "java/lang/IllegalStateException", Cond.methodLink RL 7 yX0_chord, Cond.instanceMethod yX0_chord, Cond.selects RX0 yX0_chord yX0_chord, Cond.code yX0_chord cX0_chord 4 (some .int), Cond.classLink RX0 34 "java/lang/IllegalArgumentException", Cond.initialized "java/lang/IllegalArgumentException", Cond.classLink RX0 47 "java/lang/IllegalStateException", Cond.initialized "java/lang/IllegalStateException", Cond.methodLink RX0 30 yX0_isNoteOf, Cond.static yX0_isNoteOf, Cond.code yX0_isNoteOf cX0_isNoteOf 2 (some .boolean), Cond.fieldLink RX0 139 "FiguredBass" "LOWEST" "[I", Cond.fieldLink RX0 142 "FiguredBass" "HIGHEST" "[I", Cond.methodLink RX0 41 yX0_isFigure, Cond.static yX0_isFigure]
def wsL_law0_r3 : List Cond := [Cond.code yX0_isFigure cX0_isFigure 1 (some .boolean), Cond.fieldLink RX0 132 "FiguredBass" "FIGURE_STEPS" "[I", Cond.methodLink RX0 52 yX0_putNotes, Cond.instanceMethod yX0_putNotes, Cond.selects RX0 yX0_putNotes yX0_putNotes, Cond.code yX0_putNotes cX0_putNotes 5 none, Cond.methodLink RL 80 yX1_chord, Cond.instanceMethod yX1_chord, Cond.selects RX1 yX1_chord yX1_chord, Cond.code yX1_chord cX1_chord 3 (some .int), Cond.fieldLink RX1 19 "FiguredBassModel" "thrown" "I", Cond.fieldLink RX1 23 "FiguredBassModel" "chords" "I", Cond.methodLink RX1 117 yX1_isOf, Cond.static yX1_isOf, Cond.code yX1_isOf cX1_isOf 2 (some .boolean), Cond.fieldLink RX1 30 "FiguredBassModel" "LOW" "[I", Cond.fieldLink RX1 33 "FiguredBassModel" "HIGH" "[I", Cond.methodLink RX1 26 yX1_isIn, Cond.static yX1_isIn, Cond.code yX1_isIn cX1_isIn 3 (some .boolean), Cond.methodLink RX1 121 yX1_no, Cond.instanceMethod yX1_no, Cond.selects RX1 yX1_no yX1_no, Cond.code yX1_no cX1_no 2 (some .int)]
def wsL_law0_r4 : List Cond := [Cond.methodLink RX1 106 yX1_let, Cond.instanceMethod yX1_let, Cond.selects RX1 yX1_let yX1_let, Cond.code yX1_let cX1_let 5 none, Cond.methodLink RL 81 yX1_thrown, Cond.instanceMethod yX1_thrown, Cond.selects RX1 yX1_thrown yX1_thrown, Cond.code yX1_thrown cX1_thrown 1 (some .int), Cond.methodLink RL 84 yL_setBass, Cond.static yL_setBass, Cond.codeWith yL_setBass cL_setBass 5 (some .int) [(0, 10, 13, 20), (0, 10, 17, 13)], Cond.classLink RL 20 "java/lang/IndexOutOfBoundsException", Cond.methodLink RL 17 yX0_setBass, Cond.instanceMethod yX0_setBass, Cond.selects RX0 yX0_setBass yX0_setBass, Cond.code yX0_setBass cX0_setBass 3 (some .int), Cond.classLink RX0 59 "java/lang/IndexOutOfBoundsException", Cond.initialized "java/lang/IndexOutOfBoundsException", Cond.methodLink RX0 56 yX0_isChord, Cond.instanceMethod yX0_isChord, Cond.selects RX0 yX0_isChord yX0_isChord, Cond.code yX0_isChord cX0_isChord 2 (some .boolean), Cond.methodLink RX0 64 yX0_exchangeNote, Cond.instanceMethod yX0_exchangeNote]
def wsL_law0_r5 : List Cond := [Cond.selects RX0 yX0_exchangeNote yX0_exchangeNote, Cond.code yX0_exchangeNote cX0_exchangeNote 5 (some .int), Cond.methodLink RL 86 yX1_setBass, Cond.instanceMethod yX1_setBass, Cond.selects RX1 yX1_setBass yX1_setBass, Cond.code yX1_setBass cX1_setBass 4 (some .int), Cond.methodLink RX1 124 yX1_isChord, Cond.instanceMethod yX1_isChord, Cond.selects RX1 yX1_isChord yX1_isChord, Cond.code yX1_isChord cX1_isChord 2 (some .boolean), Cond.methodLink RX1 46 yX1_at, Cond.instanceMethod yX1_at, Cond.selects RX1 yX1_at yX1_at, Cond.code yX1_at cX1_at 3 (some .int), Cond.methodLink RL 87 yL_setFigure, Cond.static yL_setFigure, Cond.codeWith yL_setFigure cL_setFigure 5 (some .int) [(0, 10, 13, 20), (0, 10, 17, 13)], Cond.methodLink RL 22 yX0_setFigure, Cond.instanceMethod yX0_setFigure, Cond.selects RX0 yX0_setFigure yX0_setFigure, Cond.code yX0_setFigure cX0_setFigure 4 (some .int), Cond.methodLink RL 89 yX1_setFigure, Cond.instanceMethod yX1_setFigure, Cond.selects RX1 yX1_setFigure yX1_setFigure]
def wsL_law0_r6 : List Cond := [Cond.code yX1_setFigure cX1_setFigure 4 (some .int), Cond.methodLink RL 90 yL_put, Cond.static yL_put, Cond.codeWith yL_put cL_put 6 (some .int) [(0, 12, 15, 20), (0, 12, 19, 13)], Cond.methodLink RL 25 yX0_put, Cond.instanceMethod yX0_put, Cond.selects RX0 yX0_put yX0_put, Cond.code yX0_put cX0_put 4 (some .int), Cond.methodLink RX0 68 yX0_isUpperVoice, Cond.static yX0_isUpperVoice, Cond.code yX0_isUpperVoice cX0_isUpperVoice 1 (some .boolean), Cond.methodLink RL 93 yX1_put, Cond.instanceMethod yX1_put, Cond.selects RX1 yX1_put yX1_put, Cond.code yX1_put cX1_put 5 (some .int), Cond.methodLink RL 94 yL_drop, Cond.static yL_drop, Cond.codeWith yL_drop cL_drop 3 (some .int) [(0, 8, 11, 15)], Cond.methodLink RL 29 yX0_drop, Cond.instanceMethod yX0_drop, Cond.selects RX0 yX0_drop yX0_drop, Cond.code yX0_drop cX0_drop 1 (some .int), Cond.methodLink RL 97 yX1_drop, Cond.instanceMethod yX1_drop]
def wsL_law0_r7 : List Cond := [Cond.selects RX1 yX1_drop yX1_drop, Cond.code yX1_drop cX1_drop 1 (some .int), Cond.methodLink RL 98 yX0_setKey, Cond.instanceMethod yX0_setKey, Cond.selects RX0 yX0_setKey yX0_setKey, Cond.code yX0_setKey cX0_setKey 3 (some .boolean), Cond.methodLink RL 102 yX1_setKey, Cond.instanceMethod yX1_setKey, Cond.selects RX1 yX1_setKey yX1_setKey, Cond.code yX1_setKey cX1_setKey 3 (some .boolean), Cond.fieldLink RX1 36 "FiguredBassModel" "isMinor" "Z", Cond.methodLink RL 103 yL_setWeight, Cond.static yL_setWeight, Cond.codeWith yL_setWeight cL_setWeight 5 (some .int) [(0, 10, 13, 20), (0, 10, 17, 13)], Cond.methodLink RL 33 yX0_setWeight, Cond.instanceMethod yX0_setWeight, Cond.selects RX0 yX0_setWeight yX0_setWeight, Cond.code yX0_setWeight cX0_setWeight 4 (some .int), Cond.methodLink RX0 77 yX0_isFault, Cond.static yX0_isFault, Cond.code yX0_isFault cX0_isFault 1 (some .boolean), Cond.methodLink RL 105 yX1_setWeight, Cond.instanceMethod yX1_setWeight, Cond.selects RX1 yX1_setWeight yX1_setWeight]
def wsL_law0_r8 : List Cond := [Cond.code yX1_setWeight cX1_setWeight 4 (some .int), Cond.methodLink RL 106 yL_lead, Cond.static yL_lead, Cond.codeWith yL_lead cL_lead 4 (some .int) [(0, 9, 12, 20), (0, 9, 15, 15)], Cond.methodLink RL 36 yX0_lead, Cond.instanceMethod yX0_lead, Cond.selects RX0 yX0_lead yX0_lead, Cond.code yX0_lead cX0_lead 3 (some .int), Cond.methodLink RX0 84 yX0_bestWay, Cond.instanceMethod yX0_bestWay, Cond.selects RX0 yX0_bestWay yX0_bestWay, Cond.code yX0_bestWay cX0_bestWay 10 (some .int), Cond.methodLink RX0 99 yX0_noteAt, Cond.instanceMethod yX0_noteAt, Cond.selects RX0 yX0_noteAt yX0_noteAt, Cond.code yX0_noteAt cX0_noteAt 3 (some .int), Cond.methodLink RX0 129 yX0_listWays, Cond.instanceMethod yX0_listWays, Cond.selects RX0 yX0_listWays yX0_listWays, Cond.code yX0_listWays cX0_listWays 5 (some .int), Cond.methodLink RX0 194 Lib.Math.max.name, Cond.static Lib.Math.max.name, Cond.initialized "java/lang/Math", Cond.code Lib.Math.max.name Lib.Math.max.code 2 (some .int)]
def wsL_law0_r9 : List Cond := [Cond.methodLink RX0 126 yX0_belongs, Cond.instanceMethod yX0_belongs, Cond.selects RX0 yX0_belongs yX0_belongs, Cond.code yX0_belongs cX0_belongs 4 (some .boolean), Cond.methodLink RX0 151 yX0_stepAbove, Cond.static yX0_stepAbove, Cond.code yX0_stepAbove cX0_stepAbove 3 (some .int), Cond.methodLink RX0 197 yX0_listSopranos, Cond.instanceMethod yX0_listSopranos, Cond.selects RX0 yX0_listSopranos yX0_listSopranos, Cond.code yX0_listSopranos cX0_listSopranos 7 (some .int), Cond.methodLink RX0 157 yX0_isRightWith, Cond.instanceMethod yX0_isRightWith, Cond.selects RX0 yX0_isRightWith yX0_isRightWith, Cond.code yX0_isRightWith cX0_isRightWith 7 (some .boolean), Cond.methodLink RX0 90 yX0_putWay, Cond.instanceMethod yX0_putWay, Cond.selects RX0 yX0_putWay yX0_putWay, Cond.code yX0_putWay cX0_putWay 3 none, Cond.methodLink RX0 94 yX0_costOf, Cond.instanceMethod yX0_costOf, Cond.selects RX0 yX0_costOf yX0_costOf, Cond.code yX0_costOf cX0_costOf 4 (some .int), Cond.methodLink RX0 154 yX0_isSet]
def wsL_law0_r10 : List Cond := [Cond.instanceMethod yX0_isSet, Cond.selects RX0 yX0_isSet yX0_isSet, Cond.code yX0_isSet cX0_isSet 2 (some .boolean), Cond.methodLink RX0 169 yX0_isRight, Cond.instanceMethod yX0_isRight, Cond.selects RX0 yX0_isRight yX0_isRight, Cond.code yX0_isRight cX0_isRight 2 (some .boolean), Cond.methodLink RX0 172 yX0_stepsGone, Cond.instanceMethod yX0_stepsGone, Cond.selects RX0 yX0_stepsGone yX0_stepsGone, Cond.code yX0_stepsGone cX0_stepsGone 4 (some .int), Cond.methodLink RX0 164 Lib.Math.abs.name, Cond.static Lib.Math.abs.name, Cond.code Lib.Math.abs.name Lib.Math.abs.code 1 (some .int), Cond.methodLink RX0 161 yX0_follows, Cond.instanceMethod yX0_follows, Cond.selects RX0 yX0_follows yX0_follows, Cond.code yX0_follows cX0_follows 2 (some .boolean), Cond.methodLink RX0 110 yX0_faultsOf, Cond.instanceMethod yX0_faultsOf, Cond.selects RX0 yX0_faultsOf yX0_faultsOf, Cond.code yX0_faultsOf cX0_faultsOf 3 (some .int), Cond.methodLink RX0 175 yX0_parallels, Cond.instanceMethod yX0_parallels]
def wsL_law0_r11 : List Cond := [Cond.selects RX0 yX0_parallels yX0_parallels, Cond.code yX0_parallels cX0_parallels 6 (some .int), Cond.methodLink RX0 184 yX0_moves, Cond.instanceMethod yX0_moves, Cond.selects RX0 yX0_moves yX0_moves, Cond.code yX0_moves cX0_moves 3 (some .boolean), Cond.methodLink RX0 187 yX0_isInterval, Cond.instanceMethod yX0_isInterval, Cond.selects RX0 yX0_isInterval yX0_isInterval, Cond.code yX0_isInterval cX0_isInterval 6 (some .boolean), Cond.methodLink RX0 123 yX0_pitchOf, Cond.instanceMethod yX0_pitchOf, Cond.selects RX0 yX0_pitchOf yX0_pitchOf, Cond.code yX0_pitchOf cX0_pitchOf 3 (some .int), Cond.fieldLink RX0 145 "FiguredBass" "MINOR" "[I", Cond.fieldLink RX0 148 "FiguredBass" "MAJOR" "[I", Cond.methodLink RX0 178 yX0_isHidden, Cond.instanceMethod yX0_isHidden, Cond.selects RX0 yX0_isHidden yX0_isHidden, Cond.code yX0_isHidden cX0_isHidden 6 (some .boolean), Cond.methodLink RX0 181 yX0_voicesAtFault, Cond.instanceMethod yX0_voicesAtFault, Cond.selects RX0 yX0_voicesAtFault yX0_voicesAtFault, Cond.code yX0_voicesAtFault cX0_voicesAtFault 5 (some .int)]
def wsL_law0_r12 : List Cond := [Cond.methodLink RX0 190 yX0_isAtFault, Cond.instanceMethod yX0_isAtFault, Cond.selects RX0 yX0_isAtFault yX0_isAtFault, Cond.code yX0_isAtFault cX0_isAtFault 8 (some .boolean), Cond.methodLink RL 109 yX1_lead, Cond.instanceMethod yX1_lead, Cond.selects RX1 yX1_lead yX1_lead, Cond.code yX1_lead cX1_lead 2 (some .int), Cond.methodLink RX1 127 yX1_isLed, Cond.instanceMethod yX1_isLed, Cond.selects RX1 yX1_isLed yX1_isLed, Cond.code yX1_isLed cX1_isLed 3 (some .boolean), Cond.methodLink RX1 113 yX1_led, Cond.instanceMethod yX1_led, Cond.selects RX1 yX1_led yX1_led, Cond.code yX1_led cX1_led 8 (some (.array .int)), Cond.methodLink RX1 103 Lib.Math.max.name, Cond.methodLink RX1 100 yX1_belongs, Cond.static yX1_belongs, Cond.code yX1_belongs cX1_belongs 3 (some .boolean), Cond.fieldLink RX1 50 "FiguredBassModel" "STEPS" "[I", Cond.methodLink RX1 53 yX1_step, Cond.static yX1_step, Cond.code yX1_step cX1_step 2 (some .int)]
def wsL_law0_r13 : List Cond := [Cond.methodLink RX1 94 yX1_isRight, Cond.instanceMethod yX1_isRight, Cond.selects RX1 yX1_isRight yX1_isRight, Cond.code yX1_isRight cX1_isRight 5 (some .boolean), Cond.methodLink RX1 56 yX1_isSet, Cond.instanceMethod yX1_isSet, Cond.selects RX1 yX1_isSet yX1_isSet, Cond.code yX1_isSet cX1_isSet 2 (some .boolean), Cond.methodLink RX1 110 yX1_cost, Cond.instanceMethod yX1_cost, Cond.selects RX1 yX1_cost yX1_cost, Cond.code yX1_cost cX1_cost 4 (some .int), Cond.methodLink RX1 91 yX1_steps, Cond.instanceMethod yX1_steps, Cond.selects RX1 yX1_steps yX1_steps, Cond.code yX1_steps cX1_steps 4 (some .int), Cond.methodLink RX1 73 Lib.Math.abs.name, Cond.methodLink RX1 78 yX1_isPair, Cond.instanceMethod yX1_isPair, Cond.selects RX1 yX1_isPair yX1_isPair, Cond.code yX1_isPair cX1_isPair 2 (some .boolean), Cond.methodLink RX1 64 yX1_goes, Cond.instanceMethod yX1_goes, Cond.selects RX1 yX1_goes yX1_goes]
def wsL_law0_r14 : List Cond := [Cond.code yX1_goes cX1_goes 3 (some .int), Cond.methodLink RX1 97 yX1_faultsOf, Cond.instanceMethod yX1_faultsOf, Cond.selects RX1 yX1_faultsOf yX1_faultsOf, Cond.code yX1_faultsOf cX1_faultsOf 5 (some .int), Cond.methodLink RX1 81 yX1_parallels, Cond.instanceMethod yX1_parallels, Cond.selects RX1 yX1_parallels yX1_parallels, Cond.code yX1_parallels cX1_parallels 6 (some .int), Cond.methodLink RX1 67 yX1_isFifth, Cond.instanceMethod yX1_isFifth, Cond.selects RX1 yX1_isFifth yX1_isFifth, Cond.code yX1_isFifth cX1_isFifth 5 (some .boolean), Cond.methodLink RX1 60 yX1_pitchOf, Cond.instanceMethod yX1_pitchOf, Cond.selects RX1 yX1_pitchOf yX1_pitchOf, Cond.code yX1_pitchOf cX1_pitchOf 2 (some .int), Cond.fieldLink RX1 40 "FiguredBassModel" "MINOR" "[I", Cond.fieldLink RX1 43 "FiguredBassModel" "MAJOR" "[I", Cond.methodLink RX1 70 yX1_isOctave, Cond.instanceMethod yX1_isOctave, Cond.selects RX1 yX1_isOctave yX1_isOctave, Cond.code yX1_isOctave cX1_isOctave 4 (some .boolean), Cond.methodLink RX1 85 yX1_isHidden]
def wsL_law0_r15 : List Cond := [Cond.instanceMethod yX1_isHidden, Cond.selects RX1 yX1_isHidden yX1_isHidden, Cond.code yX1_isHidden cX1_isHidden 4 (some .boolean), Cond.methodLink RX1 88 yX1_isFault, Cond.instanceMethod yX1_isFault, Cond.selects RX1 yX1_isFault yX1_isFault, Cond.code yX1_isFault cX1_isFault 6 (some .boolean), Cond.methodLink RL 110 yX0_leadAll, Cond.instanceMethod yX0_leadAll, Cond.selects RX0 yX0_leadAll yX0_leadAll, Cond.code yX0_leadAll cX0_leadAll 4 (some .int), Cond.methodLink RL 113 yX1_leadAll, Cond.instanceMethod yX1_leadAll, Cond.selects RX1 yX1_leadAll yX1_leadAll, Cond.code yX1_leadAll cX1_leadAll 3 (some .int), Cond.methodLink RL 114 yL_note, Cond.static yL_note, Cond.codeWith yL_note cL_note 5 (some .int) [(0, 10, 13, 20)], Cond.methodLink RL 40 yX0_note, Cond.instanceMethod yX0_note, Cond.selects RX0 yX0_note yX0_note, Cond.code yX0_note cX0_note 3 (some .int), Cond.methodLink RL 116 yX1_note, Cond.instanceMethod yX1_note]
def wsL_law0_r16 : List Cond := [Cond.selects RX1 yX1_note yX1_note, Cond.code yX1_note cX1_note 3 (some .int), Cond.methodLink RL 117 yL_told, Cond.static yL_told, Cond.codeWith yL_told cL_told 5 (some .int) [(0, 10, 13, 20)], Cond.methodLink RL 43 yX0_told, Cond.instanceMethod yX0_told, Cond.selects RX0 yX0_told yX0_told, Cond.code yX0_told cX0_told 3 (some .int), Cond.methodLink RX0 105 yX0_tellOf, Cond.instanceMethod yX0_tellOf, Cond.selects RX0 yX0_tellOf yX0_tellOf, Cond.code yX0_tellOf cX0_tellOf 3 (some .int), Cond.methodLink RL 119 yX1_told, Cond.instanceMethod yX1_told, Cond.selects RX1 yX1_told yX1_told, Cond.code yX1_told cX1_told 3 (some .int), Cond.methodLink RX1 130 yX1_chordTold, Cond.instanceMethod yX1_chordTold, Cond.selects RX1 yX1_chordTold yX1_chordTold, Cond.code yX1_chordTold cX1_chordTold 3 (some .int), Cond.methodLink RL 120 yL_faults, Cond.static yL_faults, Cond.codeWith yL_faults cL_faults 5 (some .int) [(0, 10, 13, 20)]]
def wsL_law0_r17 : List Cond := [Cond.methodLink RL 46 yX0_faults, Cond.instanceMethod yX0_faults, Cond.selects RX0 yX0_faults yX0_faults, Cond.code yX0_faults cX0_faults 3 (some .int), Cond.methodLink RL 122 yX1_faults, Cond.instanceMethod yX1_faults, Cond.selects RX1 yX1_faults yX1_faults, Cond.code yX1_faults cX1_faults 3 (some .int), Cond.methodLink RL 123 yL_count, Cond.static yL_count, Cond.codeWith yL_count cL_count 4 (some .int) [(0, 9, 12, 20)], Cond.methodLink RL 49 yX0_count, Cond.instanceMethod yX0_count, Cond.selects RX0 yX0_count yX0_count, Cond.code yX0_count cX0_count 2 (some .int), Cond.methodLink RX0 115 yX0_countOf, Cond.instanceMethod yX0_countOf, Cond.selects RX0 yX0_countOf yX0_countOf, Cond.code yX0_countOf cX0_countOf 4 (some .int), Cond.methodLink RX0 201 yX0_allFaultsOf, Cond.instanceMethod yX0_allFaultsOf, Cond.selects RX0 yX0_allFaultsOf yX0_allFaultsOf, Cond.code yX0_allFaultsOf cX0_allFaultsOf 4 (some .int), Cond.methodLink RL 125 yX1_count]
def wsL_law0_r18 : List Cond := [Cond.instanceMethod yX1_count, Cond.selects RX1 yX1_count yX1_count, Cond.code yX1_count cX1_count 2 (some .int), Cond.methodLink RX1 140 yX1_counted, Cond.instanceMethod yX1_counted, Cond.selects RX1 yX1_counted yX1_counted, Cond.code yX1_counted cX1_counted 2 (some .int), Cond.methodLink RX1 133 yX1_all, Cond.instanceMethod yX1_all, Cond.selects RX1 yX1_all yX1_all, Cond.code yX1_all cX1_all 4 (some .int), Cond.methodLink RX1 136 yX1_allFaults, Cond.instanceMethod yX1_allFaults, Cond.selects RX1 yX1_allFaults yX1_allFaults, Cond.code yX1_allFaults cX1_allFaults 3 (some .int), Cond.methodLink RL 126 yL_pitch, Cond.static yL_pitch, Cond.codeWith yL_pitch cL_pitch 4 (some .int) [(0, 9, 12, 13)], Cond.methodLink RL 52 yX0_pitch, Cond.instanceMethod yX0_pitch, Cond.selects RX0 yX0_pitch yX0_pitch, Cond.code yX0_pitch cX0_pitch 2 (some .int), Cond.methodLink RX0 118 yX0_isNote, Cond.static yX0_isNote]
def wsL_law0_r19 : List Cond := [Cond.code yX0_isNote cX0_isNote 1 (some .boolean), Cond.methodLink RL 128 yX1_pitch, Cond.instanceMethod yX1_pitch, Cond.selects RX1 yX1_pitch yX1_pitch, Cond.code yX1_pitch cX1_pitch 2 (some .int), Cond.methodLink RL 129 yL_fits, Cond.static yL_fits, Cond.codeWith yL_fits cL_fits 6 (some .int) [(0, 19, 22, 20), (0, 19, 26, 13)], Cond.methodLink RL 55 yX0_fits, Cond.instanceMethod yX0_fits, Cond.selects RX0 yX0_fits yX0_fits, Cond.code yX0_fits cX0_fits 4 (some .boolean), Cond.methodLink RL 131 yX1_fits, Cond.instanceMethod yX1_fits, Cond.selects RX1 yX1_fits yX1_fits, Cond.code yX1_fits cX1_fits 4 (some .boolean), Cond.methodLink RL 132 yL_ways, Cond.static yL_ways, Cond.codeWith yL_ways cL_ways 4 (some .int) [(0, 9, 12, 20)], Cond.methodLink RL 59 yX0_ways, Cond.instanceMethod yX0_ways, Cond.selects RX0 yX0_ways yX0_ways, Cond.code yX0_ways cX0_ways 2 (some .int), Cond.methodLink RL 134 yX1_ways]
def wsL_law0_r20 : List Cond := [Cond.instanceMethod yX1_ways, Cond.selects RX1 yX1_ways yX1_ways, Cond.code yX1_ways cX1_ways 2 (some .int), Cond.methodLink RL 135 yL_would, Cond.static yL_would, Cond.codeWith yL_would cL_would 6 (some .int) [(0, 12, 15, 20), (0, 12, 19, 13)], Cond.methodLink RL 62 yX0_would, Cond.instanceMethod yX0_would, Cond.selects RX0 yX0_would yX0_would, Cond.code yX0_would cX0_would 6 (some .int), Cond.methodLink RL 137 yX1_would, Cond.instanceMethod yX1_would, Cond.selects RX1 yX1_would yX1_would, Cond.code yX1_would cX1_would 6 (some .int), Cond.methodLink RL 138 yL_best, Cond.static yL_best, Cond.codeWith yL_best cL_best 4 (some .int) [(0, 9, 12, 20)], Cond.methodLink RL 65 yX0_best, Cond.instanceMethod yX0_best, Cond.selects RX0 yX0_best yX0_best, Cond.code yX0_best cX0_best 2 (some .int), Cond.methodLink RL 140 yX1_best, Cond.instanceMethod yX1_best, Cond.selects RX1 yX1_best yX1_best]
def wsL_law0_r21 : List Cond := [Cond.code yX1_best cX1_best 2 (some .int), Cond.methodLink RL 141 yL_advise, Cond.static yL_advise, Cond.codeWith yL_advise cL_advise 4 (some .int) [(0, 9, 12, 20)], Cond.methodLink RL 68 yX0_advise, Cond.instanceMethod yX0_advise, Cond.selects RX0 yX0_advise yX0_advise, Cond.code yX0_advise cX0_advise 11 (some .int), Cond.methodLink RL 143 yX1_advise, Cond.instanceMethod yX1_advise, Cond.selects RX1 yX1_advise yX1_advise, Cond.code yX1_advise cX1_advise 7 (some .int), Cond.methodLink RL 144 yX0_mean, Cond.instanceMethod yX0_mean, Cond.selects RX0 yX0_mean yX0_mean, Cond.code yX0_mean cX0_mean 2 (some .double), Cond.methodLink RL 148 yX1_mean, Cond.instanceMethod yX1_mean, Cond.selects RX1 yX1_mean yX1_mean, Cond.code yX1_mean cX1_mean 1 (some .double), Cond.methodLink RL 149 yX0_digest, Cond.instanceMethod yX0_digest, Cond.selects RX0 yX0_digest yX0_digest, Cond.code yX0_digest cX0_digest 5 (some .long)]
def wsL_law0_r22 : List Cond := [Cond.constantLong RX0 135 (1693), Cond.constantLong RX0 137 (31), Cond.methodLink RL 153 yX1_digest, Cond.instanceMethod yX1_digest, Cond.selects RX1 yX1_digest yX1_digest, Cond.code yX1_digest cX1_digest 7 (some .long), Cond.constantLong RX1 143 (1693), Cond.constantLong RX1 145 (31)]
def wsL_law0 : List Cond := (wsL_law0_r1 ++ (wsL_law0_r2 ++ (wsL_law0_r3 ++ (wsL_law0_r4 ++ (wsL_law0_r5 ++ (wsL_law0_r6 ++ (wsL_law0_r7 ++ (wsL_law0_r8 ++ (wsL_law0_r9 ++ (wsL_law0_r10 ++ (wsL_law0_r11 ++ (wsL_law0_r12 ++ (wsL_law0_r13 ++ (wsL_law0_r14 ++ (wsL_law0_r15 ++ (wsL_law0_r16 ++ (wsL_law0_r17 ++ (wsL_law0_r18 ++ (wsL_law0_r19 ++ (wsL_law0_r20 ++ (wsL_law0_r21 ++ wsL_law0_r22))))))))))))))))))))) ++ wsX00 ++ wsX10 ++ ([] : List Cond)
def wsL_law : List Cond := wsL_law0 ++ (vx_atS RX0 38 "java/lang/IllegalArgumentException" ["java/lang/RuntimeException", "java/lang/Exception"]).filter goodWord ++ (vx_atS RX0 51 "java/lang/IllegalStateException" ["java/lang/RuntimeException", "java/lang/Exception"]).filter goodWord ++ (vx_atS RX0 63 "java/lang/IndexOutOfBoundsException" ["java/lang/RuntimeException", "java/lang/Exception"]).filter goodWord
abbrev vwCl : List vw_C := [(RX0, TX0, 6), (RX1, TX1, 6)]
end
section
theorem dX0_init_0 : decode cX0_init 0 = .ok (.aload_n 0, 1) := by decide +kernel
theorem dX0_init_1 : decode cX0_init 1 = .ok (.invokespecial 1, 3) := by decide +kernel
theorem dX0_init_4 : decode cX0_init 4 = .ok (.aload_n 0, 1) := by decide +kernel
theorem dX0_init_5 : decode cX0_init 5 = .ok (.iconst 0, 1) := by decide +kernel
theorem dX0_init_6 : decode cX0_init 6 = .ok (.putfield 7, 3) := by decide +kernel
theorem dX0_init_9 : decode cX0_init 9 = .ok (.aload_n 0, 1) := by decide +kernel
theorem dX0_init_10 : decode cX0_init 10 = .ok (.iconst 0, 1) := by decide +kernel
theorem dX0_init_11 : decode cX0_init 11 = .ok (.putfield 13, 3) := by decide +kernel
theorem dX0_init_14 : decode cX0_init 14 = .ok (.aload_n 0, 1) := by decide +kernel
theorem dX0_init_15 : decode cX0_init 15 = .ok (.bipush 12, 2) := by decide +kernel
theorem dX0_init_17 : decode cX0_init 17 = .ok (.newarray .int, 2) := by decide +kernel
theorem dX0_init_19 : decode cX0_init 19 = .ok (.putfield 17, 3) := by decide +kernel
theorem dX0_init_22 : decode cX0_init 22 = .ok (.aload_n 0, 1) := by decide +kernel
theorem dX0_init_23 : decode cX0_init 23 = .ok (.bipush 48, 2) := by decide +kernel
theorem dX0_init_25 : decode cX0_init 25 = .ok (.newarray .int, 2) := by decide +kernel
theorem dX0_init_27 : decode cX0_init 27 = .ok (.putfield 21, 3) := by decide +kernel
theorem dX0_init_30 : decode cX0_init 30 = .ok (.aload_n 0, 1) := by decide +kernel
theorem dX0_init_31 : decode cX0_init 31 = .ok (.bipush 8, 2) := by decide +kernel
theorem dX0_init_33 : decode cX0_init 33 = .ok (.newarray .int, 2) := by decide +kernel
theorem dX0_init_35 : decode cX0_init 35 = .ok (.putfield 24, 3) := by decide +kernel
theorem dX0_init_38 : decode cX0_init 38 = .ok (.aload_n 0, 1) := by decide +kernel
theorem dX0_init_39 : decode cX0_init 39 = .ok (.bipush 96, 2) := by decide +kernel
theorem dX0_init_41 : decode cX0_init 41 = .ok (.newarray .int, 2) := by decide +kernel
theorem dX0_init_43 : decode cX0_init 43 = .ok (.putfield 27, 3) := by decide +kernel
theorem dX0_init_46 : decode cX0_init 46 = .ok (.iconst 0, 1) := by decide +kernel
theorem dX0_init_47 : decode cX0_init 47 = .ok (.istore_n 1, 1) := by decide +kernel
theorem dX0_init_48 : decode cX0_init 48 = .ok (.iload_n 1, 1) := by decide +kernel
theorem dX0_init_49 : decode cX0_init 49 = .ok (.bipush 8, 2) := by decide +kernel
theorem dX0_init_51 : decode cX0_init 51 = .ok (.if_icmp .ge 16, 3) := by decide +kernel
theorem dX0_init_54 : decode cX0_init 54 = .ok (.aload_n 0, 1) := by decide +kernel
theorem dX0_init_55 : decode cX0_init 55 = .ok (.getfield 24, 3) := by decide +kernel
theorem dX0_init_58 : decode cX0_init 58 = .ok (.iload_n 1, 1) := by decide +kernel
theorem dX0_init_59 : decode cX0_init 59 = .ok (.iconst 2, 1) := by decide +kernel
theorem dX0_init_60 : decode cX0_init 60 = .ok (.iastore, 1) := by decide +kernel
theorem dX0_init_61 : decode cX0_init 61 = .ok (.iinc 1 1, 3) := by decide +kernel
theorem dX0_init_64 : decode cX0_init 64 = .ok (.goto (-16), 3) := by decide +kernel
theorem dX0_init_67 : decode cX0_init 67 = .ok (.return_, 1) := by decide +kernel
set_option maxRecDepth 20000 in
theorem ggX0_chord_X0_isNoteOf : GoodIn wsX0_chord wsX0_isNoteOf := goodIn_r _ [11, 12, 13] (by decide +kernel) (by decide +kernel)
set_option maxRecDepth 20000 in
theorem gX0_chord_X0_isNoteOf : GoodIn wsX0_chord (va_wsS RX0 30 yX0_isNoteOf wsX0_isNoteOf) := goodIn_app (goodIn_of _ (by decide +kernel)) ggX0_chord_X0_isNoteOf
set_option maxRecDepth 20000 in
theorem ggX0_chord_X0_isFigure : GoodIn wsX0_chord wsX0_isFigure := goodIn_r _ [16, 17] (by decide +kernel) (by decide +kernel)
set_option maxRecDepth 20000 in
theorem gX0_chord_X0_isFigure : GoodIn wsX0_chord (va_wsS RX0 41 yX0_isFigure wsX0_isFigure) := goodIn_app (goodIn_of _ (by decide +kernel)) ggX0_chord_X0_isFigure
set_option maxRecDepth 20000 in
theorem ggX0_chord_X0_putNotes : GoodIn wsX0_chord wsX0_putNotes := goodIn_r _ [21, 7, 22, 23, 24, 25, 26, 27] (by decide +kernel) (by decide +kernel)
set_option maxRecDepth 20000 in
theorem gX0_chord_X0_putNotes : GoodIn wsX0_chord (wsV RX0 52 RX0 yX0_putNotes wsX0_putNotes) := goodIn_app (goodIn_of _ (by decide +kernel)) ggX0_chord_X0_putNotes
theorem dX0_chord_0 : decode cX0_chord 0 = .ok (.iconst 0, 1) := by decide +kernel
theorem dX0_chord_1 : decode cX0_chord 1 = .ok (.iload_n 1, 1) := by decide +kernel
theorem dX0_chord_2 : decode cX0_chord 2 = .ok (.invokestatic 30, 3) := by decide +kernel
theorem dX0_chord_5 : decode cX0_chord 5 = .ok (.ifCond .ne 13, 3) := by decide +kernel
theorem dX0_chord_8 : decode cX0_chord 8 = .ok (.new 34, 3) := by decide +kernel
theorem dX0_chord_11 : decode cX0_chord 11 = .ok (.dup, 1) := by decide +kernel
theorem dX0_chord_12 : decode cX0_chord 12 = .ok (.ldc 36, 2) := by decide +kernel
theorem dX0_chord_14 : decode cX0_chord 14 = .ok (.invokespecial 38, 3) := by decide +kernel
theorem dX0_chord_17 : decode cX0_chord 17 = .ok (.athrow, 1) := by decide +kernel
theorem dX0_chord_18 : decode cX0_chord 18 = .ok (.iload_n 2, 1) := by decide +kernel
theorem dX0_chord_19 : decode cX0_chord 19 = .ok (.invokestatic 41, 3) := by decide +kernel
theorem dX0_chord_22 : decode cX0_chord 22 = .ok (.ifCond .ne 13, 3) := by decide +kernel
theorem dX0_chord_25 : decode cX0_chord 25 = .ok (.new 34, 3) := by decide +kernel
theorem dX0_chord_28 : decode cX0_chord 28 = .ok (.dup, 1) := by decide +kernel
theorem dX0_chord_29 : decode cX0_chord 29 = .ok (.ldc 45, 2) := by decide +kernel
theorem dX0_chord_31 : decode cX0_chord 31 = .ok (.invokespecial 38, 3) := by decide +kernel
theorem dX0_chord_34 : decode cX0_chord 34 = .ok (.athrow, 1) := by decide +kernel
theorem dX0_chord_35 : decode cX0_chord 35 = .ok (.aload_n 0, 1) := by decide +kernel
theorem dX0_chord_36 : decode cX0_chord 36 = .ok (.getfield 7, 3) := by decide +kernel
theorem dX0_chord_39 : decode cX0_chord 39 = .ok (.bipush 12, 2) := by decide +kernel
theorem dX0_chord_41 : decode cX0_chord 41 = .ok (.if_icmp .lt 13, 3) := by decide +kernel
theorem dX0_chord_44 : decode cX0_chord 44 = .ok (.new 47, 3) := by decide +kernel
theorem dX0_chord_47 : decode cX0_chord 47 = .ok (.dup, 1) := by decide +kernel
theorem dX0_chord_48 : decode cX0_chord 48 = .ok (.ldc 49, 2) := by decide +kernel
theorem dX0_chord_50 : decode cX0_chord 50 = .ok (.invokespecial 51, 3) := by decide +kernel
theorem dX0_chord_53 : decode cX0_chord 53 = .ok (.athrow, 1) := by decide +kernel
theorem dX0_chord_54 : decode cX0_chord 54 = .ok (.aload_n 0, 1) := by decide +kernel
theorem dX0_chord_55 : decode cX0_chord 55 = .ok (.getfield 7, 3) := by decide +kernel
theorem dX0_chord_58 : decode cX0_chord 58 = .ok (.istore_n 3, 1) := by decide +kernel
theorem dX0_chord_59 : decode cX0_chord 59 = .ok (.aload_n 0, 1) := by decide +kernel
theorem dX0_chord_60 : decode cX0_chord 60 = .ok (.dup, 1) := by decide +kernel
theorem dX0_chord_61 : decode cX0_chord 61 = .ok (.getfield 7, 3) := by decide +kernel
theorem dX0_chord_64 : decode cX0_chord 64 = .ok (.iconst 1, 1) := by decide +kernel
theorem dX0_chord_65 : decode cX0_chord 65 = .ok (.iadd, 1) := by decide +kernel
theorem dX0_chord_66 : decode cX0_chord 66 = .ok (.putfield 7, 3) := by decide +kernel
theorem dX0_chord_69 : decode cX0_chord 69 = .ok (.aload_n 0, 1) := by decide +kernel
theorem dX0_chord_70 : decode cX0_chord 70 = .ok (.getfield 17, 3) := by decide +kernel
theorem dX0_chord_73 : decode cX0_chord 73 = .ok (.iload_n 3, 1) := by decide +kernel
theorem dX0_chord_74 : decode cX0_chord 74 = .ok (.iload_n 2, 1) := by decide +kernel
theorem dX0_chord_75 : decode cX0_chord 75 = .ok (.iastore, 1) := by decide +kernel
theorem dX0_chord_76 : decode cX0_chord 76 = .ok (.aload_n 0, 1) := by decide +kernel
theorem dX0_chord_77 : decode cX0_chord 77 = .ok (.getfield 21, 3) := by decide +kernel
theorem dX0_chord_80 : decode cX0_chord 80 = .ok (.iload_n 3, 1) := by decide +kernel
theorem dX0_chord_81 : decode cX0_chord 81 = .ok (.iconst 4, 1) := by decide +kernel
theorem dX0_chord_82 : decode cX0_chord 82 = .ok (.imul, 1) := by decide +kernel
theorem dX0_chord_83 : decode cX0_chord 83 = .ok (.iload_n 1, 1) := by decide +kernel
theorem dX0_chord_84 : decode cX0_chord 84 = .ok (.iastore, 1) := by decide +kernel
theorem dX0_chord_85 : decode cX0_chord 85 = .ok (.aload_n 0, 1) := by decide +kernel
theorem dX0_chord_86 : decode cX0_chord 86 = .ok (.iload_n 3, 1) := by decide +kernel
theorem dX0_chord_87 : decode cX0_chord 87 = .ok (.iconst (-1), 1) := by decide +kernel
theorem dX0_chord_88 : decode cX0_chord 88 = .ok (.iconst (-1), 1) := by decide +kernel
theorem dX0_chord_89 : decode cX0_chord 89 = .ok (.iconst (-1), 1) := by decide +kernel
theorem dX0_chord_90 : decode cX0_chord 90 = .ok (.invokevirtual 52, 3) := by decide +kernel
theorem dX0_chord_93 : decode cX0_chord 93 = .ok (.iload_n 3, 1) := by decide +kernel
theorem dX0_chord_94 : decode cX0_chord 94 = .ok (.ireturn, 1) := by decide +kernel
set_option maxRecDepth 20000 in
theorem ggX0_setBass_X0_isChord : GoodIn wsX0_setBass wsX0_isChord := goodIn_r _ [9, 10, 21, 22, 23, 24, 25, 26] (by decide +kernel) (by decide +kernel)
set_option maxRecDepth 20000 in
theorem gX0_setBass_X0_isChord : GoodIn wsX0_setBass (wsV RX0 56 RX0 yX0_isChord wsX0_isChord) := goodIn_app (goodIn_of _ (by decide +kernel)) ggX0_setBass_X0_isChord
set_option maxRecDepth 20000 in
theorem ggX0_setBass_X0_isNoteOf : GoodIn wsX0_setBass wsX0_isNoteOf := goodIn_r _ [13, 14, 15] (by decide +kernel) (by decide +kernel)
set_option maxRecDepth 20000 in
theorem gX0_setBass_X0_isNoteOf : GoodIn wsX0_setBass (va_wsS RX0 30 yX0_isNoteOf wsX0_isNoteOf) := goodIn_app (goodIn_of _ (by decide +kernel)) ggX0_setBass_X0_isNoteOf
set_option maxRecDepth 20000 in
theorem ggX0_setBass_X0_exchangeNote : GoodIn wsX0_setBass wsX0_exchangeNote := goodIn_r _ [19, 20, 21, 22, 23, 24, 25, 26] (by decide +kernel) (by decide +kernel)
set_option maxRecDepth 20000 in
theorem gX0_setBass_X0_exchangeNote : GoodIn wsX0_setBass (wsV RX0 64 RX0 yX0_exchangeNote wsX0_exchangeNote) := goodIn_app (goodIn_of _ (by decide +kernel)) ggX0_setBass_X0_exchangeNote
theorem dX0_setBass_0 : decode cX0_setBass 0 = .ok (.aload_n 0, 1) := by decide +kernel
theorem dX0_setBass_1 : decode cX0_setBass 1 = .ok (.iload_n 1, 1) := by decide +kernel
theorem dX0_setBass_2 : decode cX0_setBass 2 = .ok (.invokevirtual 56, 3) := by decide +kernel
theorem dX0_setBass_5 : decode cX0_setBass 5 = .ok (.ifCond .ne 13, 3) := by decide +kernel
theorem dX0_setBass_8 : decode cX0_setBass 8 = .ok (.new 59, 3) := by decide +kernel
theorem dX0_setBass_11 : decode cX0_setBass 11 = .ok (.dup, 1) := by decide +kernel
theorem dX0_setBass_12 : decode cX0_setBass 12 = .ok (.ldc 61, 2) := by decide +kernel
theorem dX0_setBass_14 : decode cX0_setBass 14 = .ok (.invokespecial 63, 3) := by decide +kernel
theorem dX0_setBass_17 : decode cX0_setBass 17 = .ok (.athrow, 1) := by decide +kernel
theorem dX0_setBass_18 : decode cX0_setBass 18 = .ok (.iconst 0, 1) := by decide +kernel
theorem dX0_setBass_19 : decode cX0_setBass 19 = .ok (.iload_n 2, 1) := by decide +kernel
theorem dX0_setBass_20 : decode cX0_setBass 20 = .ok (.invokestatic 30, 3) := by decide +kernel
theorem dX0_setBass_23 : decode cX0_setBass 23 = .ok (.ifCond .ne 13, 3) := by decide +kernel
theorem dX0_setBass_26 : decode cX0_setBass 26 = .ok (.new 34, 3) := by decide +kernel
theorem dX0_setBass_29 : decode cX0_setBass 29 = .ok (.dup, 1) := by decide +kernel
theorem dX0_setBass_30 : decode cX0_setBass 30 = .ok (.ldc 36, 2) := by decide +kernel
theorem dX0_setBass_32 : decode cX0_setBass 32 = .ok (.invokespecial 38, 3) := by decide +kernel
theorem dX0_setBass_35 : decode cX0_setBass 35 = .ok (.athrow, 1) := by decide +kernel
theorem dX0_setBass_36 : decode cX0_setBass 36 = .ok (.aload_n 0, 1) := by decide +kernel
theorem dX0_setBass_37 : decode cX0_setBass 37 = .ok (.iload_n 1, 1) := by decide +kernel
theorem dX0_setBass_38 : decode cX0_setBass 38 = .ok (.iconst 0, 1) := by decide +kernel
theorem dX0_setBass_39 : decode cX0_setBass 39 = .ok (.iload_n 2, 1) := by decide +kernel
theorem dX0_setBass_40 : decode cX0_setBass 40 = .ok (.invokevirtual 64, 3) := by decide +kernel
theorem dX0_setBass_43 : decode cX0_setBass 43 = .ok (.ireturn, 1) := by decide +kernel
set_option maxRecDepth 20000 in
theorem ggX0_setFigure_X0_isChord : GoodIn wsX0_setFigure wsX0_isChord := goodIn_r _ [10, 11, 16, 17, 18, 19, 20, 21] (by decide +kernel) (by decide +kernel)
set_option maxRecDepth 20000 in
theorem gX0_setFigure_X0_isChord : GoodIn wsX0_setFigure (wsV RX0 56 RX0 yX0_isChord wsX0_isChord) := goodIn_app (goodIn_of _ (by decide +kernel)) ggX0_setFigure_X0_isChord
set_option maxRecDepth 20000 in
theorem ggX0_setFigure_X0_isFigure : GoodIn wsX0_setFigure wsX0_isFigure := goodIn_r _ [14, 15] (by decide +kernel) (by decide +kernel)
set_option maxRecDepth 20000 in
theorem gX0_setFigure_X0_isFigure : GoodIn wsX0_setFigure (va_wsS RX0 41 yX0_isFigure wsX0_isFigure) := goodIn_app (goodIn_of _ (by decide +kernel)) ggX0_setFigure_X0_isFigure
theorem dX0_setFigure_0 : decode cX0_setFigure 0 = .ok (.aload_n 0, 1) := by decide +kernel
theorem dX0_setFigure_1 : decode cX0_setFigure 1 = .ok (.iload_n 1, 1) := by decide +kernel
theorem dX0_setFigure_2 : decode cX0_setFigure 2 = .ok (.invokevirtual 56, 3) := by decide +kernel
theorem dX0_setFigure_5 : decode cX0_setFigure 5 = .ok (.ifCond .ne 13, 3) := by decide +kernel
theorem dX0_setFigure_8 : decode cX0_setFigure 8 = .ok (.new 59, 3) := by decide +kernel
theorem dX0_setFigure_11 : decode cX0_setFigure 11 = .ok (.dup, 1) := by decide +kernel
theorem dX0_setFigure_12 : decode cX0_setFigure 12 = .ok (.ldc 61, 2) := by decide +kernel
theorem dX0_setFigure_14 : decode cX0_setFigure 14 = .ok (.invokespecial 63, 3) := by decide +kernel
theorem dX0_setFigure_17 : decode cX0_setFigure 17 = .ok (.athrow, 1) := by decide +kernel
theorem dX0_setFigure_18 : decode cX0_setFigure 18 = .ok (.iload_n 2, 1) := by decide +kernel
theorem dX0_setFigure_19 : decode cX0_setFigure 19 = .ok (.invokestatic 41, 3) := by decide +kernel
theorem dX0_setFigure_22 : decode cX0_setFigure 22 = .ok (.ifCond .ne 13, 3) := by decide +kernel
theorem dX0_setFigure_25 : decode cX0_setFigure 25 = .ok (.new 34, 3) := by decide +kernel
theorem dX0_setFigure_28 : decode cX0_setFigure 28 = .ok (.dup, 1) := by decide +kernel
theorem dX0_setFigure_29 : decode cX0_setFigure 29 = .ok (.ldc 45, 2) := by decide +kernel
theorem dX0_setFigure_31 : decode cX0_setFigure 31 = .ok (.invokespecial 38, 3) := by decide +kernel
theorem dX0_setFigure_34 : decode cX0_setFigure 34 = .ok (.athrow, 1) := by decide +kernel
theorem dX0_setFigure_35 : decode cX0_setFigure 35 = .ok (.aload_n 0, 1) := by decide +kernel
theorem dX0_setFigure_36 : decode cX0_setFigure 36 = .ok (.getfield 17, 3) := by decide +kernel
theorem dX0_setFigure_39 : decode cX0_setFigure 39 = .ok (.iload_n 1, 1) := by decide +kernel
theorem dX0_setFigure_40 : decode cX0_setFigure 40 = .ok (.iaload, 1) := by decide +kernel
theorem dX0_setFigure_41 : decode cX0_setFigure 41 = .ok (.istore_n 3, 1) := by decide +kernel
theorem dX0_setFigure_42 : decode cX0_setFigure 42 = .ok (.aload_n 0, 1) := by decide +kernel
theorem dX0_setFigure_43 : decode cX0_setFigure 43 = .ok (.getfield 17, 3) := by decide +kernel
theorem dX0_setFigure_46 : decode cX0_setFigure 46 = .ok (.iload_n 1, 1) := by decide +kernel
theorem dX0_setFigure_47 : decode cX0_setFigure 47 = .ok (.iload_n 2, 1) := by decide +kernel
theorem dX0_setFigure_48 : decode cX0_setFigure 48 = .ok (.iastore, 1) := by decide +kernel
theorem dX0_setFigure_49 : decode cX0_setFigure 49 = .ok (.iload_n 3, 1) := by decide +kernel
theorem dX0_setFigure_50 : decode cX0_setFigure 50 = .ok (.ireturn, 1) := by decide +kernel
set_option maxRecDepth 20000 in
theorem ggX0_put_X0_isChord : GoodIn wsX0_put wsX0_isChord := goodIn_r _ [9, 10, 24, 25, 26, 27, 28, 29] (by decide +kernel) (by decide +kernel)
set_option maxRecDepth 20000 in
theorem gX0_put_X0_isChord : GoodIn wsX0_put (wsV RX0 56 RX0 yX0_isChord wsX0_isChord) := goodIn_app (goodIn_of _ (by decide +kernel)) ggX0_put_X0_isChord
set_option maxRecDepth 20000 in
theorem ggX0_put_X0_isUpperVoice : GoodIn wsX0_put wsX0_isUpperVoice := goodIn_r _ [13] (by decide +kernel) (by decide +kernel)
set_option maxRecDepth 20000 in
theorem gX0_put_X0_isUpperVoice : GoodIn wsX0_put (va_wsS RX0 68 yX0_isUpperVoice wsX0_isUpperVoice) := goodIn_app (goodIn_of _ (by decide +kernel)) ggX0_put_X0_isUpperVoice
set_option maxRecDepth 20000 in
theorem ggX0_put_X0_isNoteOf : GoodIn wsX0_put wsX0_isNoteOf := goodIn_r _ [16, 17, 18] (by decide +kernel) (by decide +kernel)
set_option maxRecDepth 20000 in
theorem gX0_put_X0_isNoteOf : GoodIn wsX0_put (va_wsS RX0 30 yX0_isNoteOf wsX0_isNoteOf) := goodIn_app (goodIn_of _ (by decide +kernel)) ggX0_put_X0_isNoteOf
set_option maxRecDepth 20000 in
theorem ggX0_put_X0_exchangeNote : GoodIn wsX0_put wsX0_exchangeNote := goodIn_r _ [22, 23, 24, 25, 26, 27, 28, 29] (by decide +kernel) (by decide +kernel)
set_option maxRecDepth 20000 in
theorem gX0_put_X0_exchangeNote : GoodIn wsX0_put (wsV RX0 64 RX0 yX0_exchangeNote wsX0_exchangeNote) := goodIn_app (goodIn_of _ (by decide +kernel)) ggX0_put_X0_exchangeNote
theorem dX0_put_0 : decode cX0_put 0 = .ok (.aload_n 0, 1) := by decide +kernel
theorem dX0_put_1 : decode cX0_put 1 = .ok (.iload_n 1, 1) := by decide +kernel
theorem dX0_put_2 : decode cX0_put 2 = .ok (.invokevirtual 56, 3) := by decide +kernel
theorem dX0_put_5 : decode cX0_put 5 = .ok (.ifCond .eq 10, 3) := by decide +kernel
theorem dX0_put_8 : decode cX0_put 8 = .ok (.iload_n 2, 1) := by decide +kernel
theorem dX0_put_9 : decode cX0_put 9 = .ok (.invokestatic 68, 3) := by decide +kernel
theorem dX0_put_12 : decode cX0_put 12 = .ok (.ifCond .ne 13, 3) := by decide +kernel
theorem dX0_put_15 : decode cX0_put 15 = .ok (.new 59, 3) := by decide +kernel
theorem dX0_put_18 : decode cX0_put 18 = .ok (.dup, 1) := by decide +kernel
theorem dX0_put_19 : decode cX0_put 19 = .ok (.ldc 71, 2) := by decide +kernel
theorem dX0_put_21 : decode cX0_put 21 = .ok (.invokespecial 63, 3) := by decide +kernel
theorem dX0_put_24 : decode cX0_put 24 = .ok (.athrow, 1) := by decide +kernel
theorem dX0_put_25 : decode cX0_put 25 = .ok (.iload_n 3, 1) := by decide +kernel
theorem dX0_put_26 : decode cX0_put 26 = .ok (.iconst (-1), 1) := by decide +kernel
theorem dX0_put_27 : decode cX0_put 27 = .ok (.if_icmp .eq 21, 3) := by decide +kernel
theorem dX0_put_30 : decode cX0_put 30 = .ok (.iload_n 2, 1) := by decide +kernel
theorem dX0_put_31 : decode cX0_put 31 = .ok (.iload_n 3, 1) := by decide +kernel
theorem dX0_put_32 : decode cX0_put 32 = .ok (.invokestatic 30, 3) := by decide +kernel
theorem dX0_put_35 : decode cX0_put 35 = .ok (.ifCond .ne 13, 3) := by decide +kernel
theorem dX0_put_38 : decode cX0_put 38 = .ok (.new 34, 3) := by decide +kernel
theorem dX0_put_41 : decode cX0_put 41 = .ok (.dup, 1) := by decide +kernel
theorem dX0_put_42 : decode cX0_put 42 = .ok (.ldc 73, 2) := by decide +kernel
theorem dX0_put_44 : decode cX0_put 44 = .ok (.invokespecial 38, 3) := by decide +kernel
theorem dX0_put_47 : decode cX0_put 47 = .ok (.athrow, 1) := by decide +kernel
theorem dX0_put_48 : decode cX0_put 48 = .ok (.aload_n 0, 1) := by decide +kernel
theorem dX0_put_49 : decode cX0_put 49 = .ok (.iload_n 1, 1) := by decide +kernel
theorem dX0_put_50 : decode cX0_put 50 = .ok (.iload_n 2, 1) := by decide +kernel
theorem dX0_put_51 : decode cX0_put 51 = .ok (.iload_n 3, 1) := by decide +kernel
theorem dX0_put_52 : decode cX0_put 52 = .ok (.invokevirtual 64, 3) := by decide +kernel
theorem dX0_put_55 : decode cX0_put 55 = .ok (.ireturn, 1) := by decide +kernel
theorem dX0_drop_0 : decode cX0_drop 0 = .ok (.aload_n 0, 1) := by decide +kernel
theorem dX0_drop_1 : decode cX0_drop 1 = .ok (.getfield 7, 3) := by decide +kernel
theorem dX0_drop_4 : decode cX0_drop 4 = .ok (.ifCond .gt 13, 3) := by decide +kernel
theorem dX0_drop_7 : decode cX0_drop 7 = .ok (.new 47, 3) := by decide +kernel
theorem dX0_drop_10 : decode cX0_drop 10 = .ok (.dup, 1) := by decide +kernel
theorem dX0_drop_11 : decode cX0_drop 11 = .ok (.ldc 75, 2) := by decide +kernel
theorem dX0_drop_13 : decode cX0_drop 13 = .ok (.invokespecial 51, 3) := by decide +kernel
theorem dX0_drop_16 : decode cX0_drop 16 = .ok (.athrow, 1) := by decide +kernel
theorem dX0_drop_17 : decode cX0_drop 17 = .ok (.aload_n 0, 1) := by decide +kernel
theorem dX0_drop_18 : decode cX0_drop 18 = .ok (.dup, 1) := by decide +kernel
theorem dX0_drop_19 : decode cX0_drop 19 = .ok (.getfield 7, 3) := by decide +kernel
theorem dX0_drop_22 : decode cX0_drop 22 = .ok (.iconst 1, 1) := by decide +kernel
theorem dX0_drop_23 : decode cX0_drop 23 = .ok (.isub, 1) := by decide +kernel
theorem dX0_drop_24 : decode cX0_drop 24 = .ok (.putfield 7, 3) := by decide +kernel
theorem dX0_drop_27 : decode cX0_drop 27 = .ok (.aload_n 0, 1) := by decide +kernel
theorem dX0_drop_28 : decode cX0_drop 28 = .ok (.getfield 7, 3) := by decide +kernel
theorem dX0_drop_31 : decode cX0_drop 31 = .ok (.ireturn, 1) := by decide +kernel
theorem dX0_setKey_0 : decode cX0_setKey 0 = .ok (.aload_n 0, 1) := by decide +kernel
theorem dX0_setKey_1 : decode cX0_setKey 1 = .ok (.getfield 13, 3) := by decide +kernel
theorem dX0_setKey_4 : decode cX0_setKey 4 = .ok (.istore_n 2, 1) := by decide +kernel
theorem dX0_setKey_5 : decode cX0_setKey 5 = .ok (.aload_n 0, 1) := by decide +kernel
theorem dX0_setKey_6 : decode cX0_setKey 6 = .ok (.iload_n 1, 1) := by decide +kernel
theorem dX0_setKey_7 : decode cX0_setKey 7 = .ok (.putfield 13, 3) := by decide +kernel
theorem dX0_setKey_10 : decode cX0_setKey 10 = .ok (.iload_n 2, 1) := by decide +kernel
theorem dX0_setKey_11 : decode cX0_setKey 11 = .ok (.ireturn, 1) := by decide +kernel
set_option maxRecDepth 20000 in
theorem ggX0_setWeight_X0_isFault : GoodIn wsX0_setWeight wsX0_isFault := goodIn_r _ [9] (by decide +kernel) (by decide +kernel)
set_option maxRecDepth 20000 in
theorem gX0_setWeight_X0_isFault : GoodIn wsX0_setWeight (va_wsS RX0 77 yX0_isFault wsX0_isFault) := goodIn_app (goodIn_of _ (by decide +kernel)) ggX0_setWeight_X0_isFault
theorem dX0_setWeight_0 : decode cX0_setWeight 0 = .ok (.iload_n 1, 1) := by decide +kernel
theorem dX0_setWeight_1 : decode cX0_setWeight 1 = .ok (.invokestatic 77, 3) := by decide +kernel
theorem dX0_setWeight_4 : decode cX0_setWeight 4 = .ok (.ifCond .ne 13, 3) := by decide +kernel
theorem dX0_setWeight_7 : decode cX0_setWeight 7 = .ok (.new 59, 3) := by decide +kernel
theorem dX0_setWeight_10 : decode cX0_setWeight 10 = .ok (.dup, 1) := by decide +kernel
theorem dX0_setWeight_11 : decode cX0_setWeight 11 = .ok (.ldc 80, 2) := by decide +kernel
theorem dX0_setWeight_13 : decode cX0_setWeight 13 = .ok (.invokespecial 63, 3) := by decide +kernel
theorem dX0_setWeight_16 : decode cX0_setWeight 16 = .ok (.athrow, 1) := by decide +kernel
theorem dX0_setWeight_17 : decode cX0_setWeight 17 = .ok (.iload_n 2, 1) := by decide +kernel
theorem dX0_setWeight_18 : decode cX0_setWeight 18 = .ok (.ifCond .lt 9, 3) := by decide +kernel
theorem dX0_setWeight_21 : decode cX0_setWeight 21 = .ok (.iload_n 2, 1) := by decide +kernel
theorem dX0_setWeight_22 : decode cX0_setWeight 22 = .ok (.bipush 9, 2) := by decide +kernel
theorem dX0_setWeight_24 : decode cX0_setWeight 24 = .ok (.if_icmp .le 13, 3) := by decide +kernel
theorem dX0_setWeight_27 : decode cX0_setWeight 27 = .ok (.new 34, 3) := by decide +kernel
theorem dX0_setWeight_30 : decode cX0_setWeight 30 = .ok (.dup, 1) := by decide +kernel
theorem dX0_setWeight_31 : decode cX0_setWeight 31 = .ok (.ldc 82, 2) := by decide +kernel
theorem dX0_setWeight_33 : decode cX0_setWeight 33 = .ok (.invokespecial 38, 3) := by decide +kernel
theorem dX0_setWeight_36 : decode cX0_setWeight 36 = .ok (.athrow, 1) := by decide +kernel
theorem dX0_setWeight_37 : decode cX0_setWeight 37 = .ok (.aload_n 0, 1) := by decide +kernel
theorem dX0_setWeight_38 : decode cX0_setWeight 38 = .ok (.getfield 24, 3) := by decide +kernel
theorem dX0_setWeight_41 : decode cX0_setWeight 41 = .ok (.iload_n 1, 1) := by decide +kernel
theorem dX0_setWeight_42 : decode cX0_setWeight 42 = .ok (.iaload, 1) := by decide +kernel
theorem dX0_setWeight_43 : decode cX0_setWeight 43 = .ok (.istore_n 3, 1) := by decide +kernel
theorem dX0_setWeight_44 : decode cX0_setWeight 44 = .ok (.aload_n 0, 1) := by decide +kernel
theorem dX0_setWeight_45 : decode cX0_setWeight 45 = .ok (.getfield 24, 3) := by decide +kernel
theorem dX0_setWeight_48 : decode cX0_setWeight 48 = .ok (.iload_n 1, 1) := by decide +kernel
theorem dX0_setWeight_49 : decode cX0_setWeight 49 = .ok (.iload_n 2, 1) := by decide +kernel
theorem dX0_setWeight_50 : decode cX0_setWeight 50 = .ok (.iastore, 1) := by decide +kernel
theorem dX0_setWeight_51 : decode cX0_setWeight 51 = .ok (.iload_n 3, 1) := by decide +kernel
theorem dX0_setWeight_52 : decode cX0_setWeight 52 = .ok (.ireturn, 1) := by decide +kernel
set_option maxRecDepth 20000 in
theorem ggX0_lead_X0_isChord : GoodIn wsX0_lead wsX0_isChord := goodIn_r _ [9, 10, 115, 116, 117, 118, 119, 120] (by decide +kernel) (by decide +kernel)
set_option maxRecDepth 20000 in
theorem gX0_lead_X0_isChord : GoodIn wsX0_lead (wsV RX0 56 RX0 yX0_isChord wsX0_isChord) := goodIn_app (goodIn_of _ (by decide +kernel)) ggX0_lead_X0_isChord
set_option maxRecDepth 20000 in
theorem ggX0_lead_X0_bestWay : GoodIn wsX0_lead wsX0_bestWay := goodIn_r _ [14, 15, 16, 17, 18, 8, 19, 20, 21, 22, 23, 24, 25, 26, 27, 28, 29, 30, 31, 32, 33, 34, 35, 36, 37, 38, 39, 40, 41, 42, 43, 44, 45, 46, 47, 48, 49, 50, 51, 52, 53, 54, 55, 56, 57, 58, 59, 60, 61, 62, 63, 64, 5, 6, 7, 9, 10, 65, 66, 67, 68, 69, 70, 71, 72, 73, 74, 75, 76, 77, 78, 79, 80, 81, 82, 83, 84, 85, 86, 87, 88, 89, 90, 91, 92, 93, 94, 95, 96, 97, 98, 99, 100, 101, 102, 103, 104, 105, 106, 107, 108, 109, 110, 111, 112, 113, 114, 115, 116, 117, 118, 119, 120] (by decide +kernel) (by decide +kernel)
set_option maxRecDepth 20000 in
theorem gX0_lead_X0_bestWay : GoodIn wsX0_lead (wsV RX0 84 RX0 yX0_bestWay wsX0_bestWay) := goodIn_app (goodIn_of _ (by decide +kernel)) ggX0_lead_X0_bestWay
set_option maxRecDepth 20000 in
theorem ggX0_lead_X0_putWay : GoodIn wsX0_lead wsX0_putWay := goodIn_r _ [51, 52, 53, 54, 8, 55, 20, 115, 116, 117, 118, 119, 120] (by decide +kernel) (by decide +kernel)
set_option maxRecDepth 20000 in
theorem gX0_lead_X0_putWay : GoodIn wsX0_lead (wsV RX0 90 RX0 yX0_putWay wsX0_putWay) := goodIn_app (goodIn_of _ (by decide +kernel)) ggX0_lead_X0_putWay
set_option maxRecDepth 20000 in
theorem ggX0_lead_X0_costOf : GoodIn wsX0_lead wsX0_costOf := goodIn_r _ [59, 60, 61, 62, 63, 8, 64, 5, 6, 7, 9, 10, 16, 17, 18, 19, 20, 65, 66, 67, 68, 44, 45, 46, 47, 35, 36, 37, 38, 39, 69, 70, 71, 72, 73, 74, 29, 75, 76, 77, 78, 79, 80, 81, 82, 83, 84, 85, 86, 87, 88, 89, 90, 91, 92, 93, 94, 95, 96, 97, 98, 99, 100, 101, 102, 103, 104, 105, 106, 107, 108, 109, 110, 111, 112, 113, 114, 115, 116, 117, 118, 119, 120] (by decide +kernel) (by decide +kernel)
set_option maxRecDepth 20000 in
theorem gX0_lead_X0_costOf : GoodIn wsX0_lead (wsV RX0 94 RX0 yX0_costOf wsX0_costOf) := goodIn_app (goodIn_of _ (by decide +kernel)) ggX0_lead_X0_costOf
theorem dX0_lead_0 : decode cX0_lead 0 = .ok (.aload_n 0, 1) := by decide +kernel
theorem dX0_lead_1 : decode cX0_lead 1 = .ok (.iload_n 1, 1) := by decide +kernel
theorem dX0_lead_2 : decode cX0_lead 2 = .ok (.invokevirtual 56, 3) := by decide +kernel
theorem dX0_lead_5 : decode cX0_lead 5 = .ok (.ifCond .ne 13, 3) := by decide +kernel
theorem dX0_lead_8 : decode cX0_lead 8 = .ok (.new 59, 3) := by decide +kernel
theorem dX0_lead_11 : decode cX0_lead 11 = .ok (.dup, 1) := by decide +kernel
theorem dX0_lead_12 : decode cX0_lead 12 = .ok (.ldc 61, 2) := by decide +kernel
theorem dX0_lead_14 : decode cX0_lead 14 = .ok (.invokespecial 63, 3) := by decide +kernel
theorem dX0_lead_17 : decode cX0_lead 17 = .ok (.athrow, 1) := by decide +kernel
theorem dX0_lead_18 : decode cX0_lead 18 = .ok (.aload_n 0, 1) := by decide +kernel
theorem dX0_lead_19 : decode cX0_lead 19 = .ok (.iload_n 1, 1) := by decide +kernel
theorem dX0_lead_20 : decode cX0_lead 20 = .ok (.invokevirtual 84, 3) := by decide +kernel
theorem dX0_lead_23 : decode cX0_lead 23 = .ok (.istore_n 2, 1) := by decide +kernel
theorem dX0_lead_24 : decode cX0_lead 24 = .ok (.iload_n 2, 1) := by decide +kernel
theorem dX0_lead_25 : decode cX0_lead 25 = .ok (.ifCond .ge 13, 3) := by decide +kernel
theorem dX0_lead_28 : decode cX0_lead 28 = .ok (.new 47, 3) := by decide +kernel
theorem dX0_lead_31 : decode cX0_lead 31 = .ok (.dup, 1) := by decide +kernel
theorem dX0_lead_32 : decode cX0_lead 32 = .ok (.ldc 88, 2) := by decide +kernel
theorem dX0_lead_34 : decode cX0_lead 34 = .ok (.invokespecial 51, 3) := by decide +kernel
theorem dX0_lead_37 : decode cX0_lead 37 = .ok (.athrow, 1) := by decide +kernel
theorem dX0_lead_38 : decode cX0_lead 38 = .ok (.aload_n 0, 1) := by decide +kernel
theorem dX0_lead_39 : decode cX0_lead 39 = .ok (.iload_n 1, 1) := by decide +kernel
theorem dX0_lead_40 : decode cX0_lead 40 = .ok (.iload_n 2, 1) := by decide +kernel
theorem dX0_lead_41 : decode cX0_lead 41 = .ok (.invokevirtual 90, 3) := by decide +kernel
theorem dX0_lead_44 : decode cX0_lead 44 = .ok (.aload_n 0, 1) := by decide +kernel
theorem dX0_lead_45 : decode cX0_lead 45 = .ok (.iload_n 1, 1) := by decide +kernel
theorem dX0_lead_46 : decode cX0_lead 46 = .ok (.invokevirtual 94, 3) := by decide +kernel
theorem dX0_lead_49 : decode cX0_lead 49 = .ok (.ireturn, 1) := by decide +kernel
set_option maxRecDepth 20000 in
theorem ggX0_leadAll_X0_bestWay : GoodIn wsX0_leadAll wsX0_bestWay := goodIn_r _ [6, 7, 8, 9, 10, 5, 11, 12, 13, 14, 15, 16, 17, 18, 19, 20, 21, 22, 23, 24, 25, 26, 27, 28, 29, 30, 31, 32, 33, 34, 35, 36, 37, 38, 39, 40, 41, 42, 43, 44, 45, 46, 47, 48, 49, 50, 51, 52, 53, 54, 55, 56, 57, 58, 59, 60, 1, 61, 62, 63, 64, 65, 66, 67, 68, 69, 70, 71, 72, 73, 74, 75, 76, 77, 78, 79, 80, 81, 82, 83, 84, 85, 86, 87, 88, 89, 90, 91, 92, 93, 94, 95, 96, 97, 98, 99, 100, 101, 102, 103, 104, 105, 106, 107, 108, 109, 110, 111, 112, 113, 114, 115, 116] (by decide +kernel) (by decide +kernel)
set_option maxRecDepth 20000 in
theorem gX0_leadAll_X0_bestWay : GoodIn wsX0_leadAll (wsV RX0 84 RX0 yX0_bestWay wsX0_bestWay) := goodIn_app (goodIn_of _ (by decide +kernel)) ggX0_leadAll_X0_bestWay
set_option maxRecDepth 20000 in
theorem ggX0_leadAll_X0_putWay : GoodIn wsX0_leadAll wsX0_putWay := goodIn_r _ [43, 44, 45, 46, 5, 47, 12, 111, 112, 113, 114, 115, 116] (by decide +kernel) (by decide +kernel)
set_option maxRecDepth 20000 in
theorem gX0_leadAll_X0_putWay : GoodIn wsX0_leadAll (wsV RX0 90 RX0 yX0_putWay wsX0_putWay) := goodIn_app (goodIn_of _ (by decide +kernel)) ggX0_leadAll_X0_putWay
theorem dX0_leadAll_0 : decode cX0_leadAll 0 = .ok (.iconst 0, 1) := by decide +kernel
theorem dX0_leadAll_1 : decode cX0_leadAll 1 = .ok (.istore_n 1, 1) := by decide +kernel
theorem dX0_leadAll_2 : decode cX0_leadAll 2 = .ok (.iconst 0, 1) := by decide +kernel
theorem dX0_leadAll_3 : decode cX0_leadAll 3 = .ok (.istore_n 2, 1) := by decide +kernel
theorem dX0_leadAll_4 : decode cX0_leadAll 4 = .ok (.iload_n 2, 1) := by decide +kernel
theorem dX0_leadAll_5 : decode cX0_leadAll 5 = .ok (.aload_n 0, 1) := by decide +kernel
theorem dX0_leadAll_6 : decode cX0_leadAll 6 = .ok (.getfield 7, 3) := by decide +kernel
theorem dX0_leadAll_9 : decode cX0_leadAll 9 = .ok (.if_icmp .ge 28, 3) := by decide +kernel
theorem dX0_leadAll_12 : decode cX0_leadAll 12 = .ok (.aload_n 0, 1) := by decide +kernel
theorem dX0_leadAll_13 : decode cX0_leadAll 13 = .ok (.iload_n 2, 1) := by decide +kernel
theorem dX0_leadAll_14 : decode cX0_leadAll 14 = .ok (.invokevirtual 84, 3) := by decide +kernel
theorem dX0_leadAll_17 : decode cX0_leadAll 17 = .ok (.istore_n 3, 1) := by decide +kernel
theorem dX0_leadAll_18 : decode cX0_leadAll 18 = .ok (.iload_n 3, 1) := by decide +kernel
theorem dX0_leadAll_19 : decode cX0_leadAll 19 = .ok (.ifCond .lt 12, 3) := by decide +kernel
theorem dX0_leadAll_22 : decode cX0_leadAll 22 = .ok (.aload_n 0, 1) := by decide +kernel
theorem dX0_leadAll_23 : decode cX0_leadAll 23 = .ok (.iload_n 2, 1) := by decide +kernel
theorem dX0_leadAll_24 : decode cX0_leadAll 24 = .ok (.iload_n 3, 1) := by decide +kernel
theorem dX0_leadAll_25 : decode cX0_leadAll 25 = .ok (.invokevirtual 90, 3) := by decide +kernel
theorem dX0_leadAll_28 : decode cX0_leadAll 28 = .ok (.iinc 1 1, 3) := by decide +kernel
theorem dX0_leadAll_31 : decode cX0_leadAll 31 = .ok (.iinc 2 1, 3) := by decide +kernel
theorem dX0_leadAll_34 : decode cX0_leadAll 34 = .ok (.goto (-30), 3) := by decide +kernel
theorem dX0_leadAll_37 : decode cX0_leadAll 37 = .ok (.iload_n 1, 1) := by decide +kernel
theorem dX0_leadAll_38 : decode cX0_leadAll 38 = .ok (.ireturn, 1) := by decide +kernel
set_option maxRecDepth 20000 in
theorem ggX0_note_X0_isChord : GoodIn wsX0_note wsX0_isChord := goodIn_r _ [7, 8, 14, 15, 16, 17, 18, 19] (by decide +kernel) (by decide +kernel)
set_option maxRecDepth 20000 in
theorem gX0_note_X0_isChord : GoodIn wsX0_note (wsV RX0 56 RX0 yX0_isChord wsX0_isChord) := goodIn_app (goodIn_of _ (by decide +kernel)) ggX0_note_X0_isChord
set_option maxRecDepth 20000 in
theorem ggX0_note_X0_noteAt : GoodIn wsX0_note wsX0_noteAt := goodIn_r _ [12, 13, 14, 15, 16, 17, 18, 19] (by decide +kernel) (by decide +kernel)
set_option maxRecDepth 20000 in
theorem gX0_note_X0_noteAt : GoodIn wsX0_note (wsV RX0 99 RX0 yX0_noteAt wsX0_noteAt) := goodIn_app (goodIn_of _ (by decide +kernel)) ggX0_note_X0_noteAt
theorem dX0_note_0 : decode cX0_note 0 = .ok (.aload_n 0, 1) := by decide +kernel
theorem dX0_note_1 : decode cX0_note 1 = .ok (.iload_n 1, 1) := by decide +kernel
theorem dX0_note_2 : decode cX0_note 2 = .ok (.invokevirtual 56, 3) := by decide +kernel
theorem dX0_note_5 : decode cX0_note 5 = .ok (.ifCond .eq 12, 3) := by decide +kernel
theorem dX0_note_8 : decode cX0_note 8 = .ok (.iload_n 2, 1) := by decide +kernel
theorem dX0_note_9 : decode cX0_note 9 = .ok (.ifCond .lt 8, 3) := by decide +kernel
theorem dX0_note_12 : decode cX0_note 12 = .ok (.iload_n 2, 1) := by decide +kernel
theorem dX0_note_13 : decode cX0_note 13 = .ok (.iconst 4, 1) := by decide +kernel
theorem dX0_note_14 : decode cX0_note 14 = .ok (.if_icmp .lt 13, 3) := by decide +kernel
theorem dX0_note_17 : decode cX0_note 17 = .ok (.new 59, 3) := by decide +kernel
theorem dX0_note_20 : decode cX0_note 20 = .ok (.dup, 1) := by decide +kernel
theorem dX0_note_21 : decode cX0_note 21 = .ok (.ldc 97, 2) := by decide +kernel
theorem dX0_note_23 : decode cX0_note 23 = .ok (.invokespecial 63, 3) := by decide +kernel
theorem dX0_note_26 : decode cX0_note 26 = .ok (.athrow, 1) := by decide +kernel
theorem dX0_note_27 : decode cX0_note 27 = .ok (.aload_n 0, 1) := by decide +kernel
theorem dX0_note_28 : decode cX0_note 28 = .ok (.iload_n 1, 1) := by decide +kernel
theorem dX0_note_29 : decode cX0_note 29 = .ok (.iload_n 2, 1) := by decide +kernel
theorem dX0_note_30 : decode cX0_note 30 = .ok (.invokevirtual 99, 3) := by decide +kernel
theorem dX0_note_33 : decode cX0_note 33 = .ok (.ireturn, 1) := by decide +kernel
set_option maxRecDepth 20000 in
theorem ggX0_told_X0_isChord : GoodIn wsX0_told wsX0_isChord := goodIn_r _ [7, 8, 87, 88, 89, 90, 91, 92] (by decide +kernel) (by decide +kernel)
set_option maxRecDepth 20000 in
theorem gX0_told_X0_isChord : GoodIn wsX0_told (wsV RX0 56 RX0 yX0_isChord wsX0_isChord) := goodIn_app (goodIn_of _ (by decide +kernel)) ggX0_told_X0_isChord
set_option maxRecDepth 20000 in
theorem ggX0_told_X0_tellOf : GoodIn wsX0_told wsX0_tellOf := goodIn_r _ [12, 13, 14, 15, 16, 6, 17, 18, 19, 20, 21, 22, 3, 4, 5, 7, 8, 23, 24, 25, 26, 27, 28, 29, 30, 31, 32, 33, 34, 35, 36, 37, 38, 39, 40, 41, 42, 43, 44, 45, 46, 47, 48, 49, 50, 51, 52, 53, 54, 55, 56, 57, 58, 59, 60, 61, 62, 63, 64, 65, 66, 67, 68, 69, 70, 71, 72, 73, 74, 75, 76, 77, 78, 79, 80, 81, 82, 83, 84, 85, 86, 87, 88, 89, 90, 91, 92] (by decide +kernel) (by decide +kernel)
set_option maxRecDepth 20000 in
theorem gX0_told_X0_tellOf : GoodIn wsX0_told (wsV RX0 105 RX0 yX0_tellOf wsX0_tellOf) := goodIn_app (goodIn_of _ (by decide +kernel)) ggX0_told_X0_tellOf
theorem dX0_told_0 : decode cX0_told 0 = .ok (.aload_n 0, 1) := by decide +kernel
theorem dX0_told_1 : decode cX0_told 1 = .ok (.iload_n 1, 1) := by decide +kernel
theorem dX0_told_2 : decode cX0_told 2 = .ok (.invokevirtual 56, 3) := by decide +kernel
theorem dX0_told_5 : decode cX0_told 5 = .ok (.ifCond .eq 13, 3) := by decide +kernel
theorem dX0_told_8 : decode cX0_told 8 = .ok (.iload_n 2, 1) := by decide +kernel
theorem dX0_told_9 : decode cX0_told 9 = .ok (.ifCond .lt 9, 3) := by decide +kernel
theorem dX0_told_12 : decode cX0_told 12 = .ok (.iload_n 2, 1) := by decide +kernel
theorem dX0_told_13 : decode cX0_told 13 = .ok (.bipush 6, 2) := by decide +kernel
theorem dX0_told_15 : decode cX0_told 15 = .ok (.if_icmp .lt 13, 3) := by decide +kernel
theorem dX0_told_18 : decode cX0_told 18 = .ok (.new 59, 3) := by decide +kernel
theorem dX0_told_21 : decode cX0_told 21 = .ok (.dup, 1) := by decide +kernel
theorem dX0_told_22 : decode cX0_told 22 = .ok (.ldc 103, 2) := by decide +kernel
theorem dX0_told_24 : decode cX0_told 24 = .ok (.invokespecial 63, 3) := by decide +kernel
theorem dX0_told_27 : decode cX0_told 27 = .ok (.athrow, 1) := by decide +kernel
theorem dX0_told_28 : decode cX0_told 28 = .ok (.aload_n 0, 1) := by decide +kernel
theorem dX0_told_29 : decode cX0_told 29 = .ok (.iload_n 1, 1) := by decide +kernel
theorem dX0_told_30 : decode cX0_told 30 = .ok (.iload_n 2, 1) := by decide +kernel
theorem dX0_told_31 : decode cX0_told 31 = .ok (.invokevirtual 105, 3) := by decide +kernel
theorem dX0_told_34 : decode cX0_told 34 = .ok (.ireturn, 1) := by decide +kernel
set_option maxRecDepth 20000 in
theorem ggX0_faults_X0_isChord : GoodIn wsX0_faults wsX0_isChord := goodIn_r _ [7, 8, 64, 65, 66, 67, 68, 69] (by decide +kernel) (by decide +kernel)
set_option maxRecDepth 20000 in
theorem gX0_faults_X0_isChord : GoodIn wsX0_faults (wsV RX0 56 RX0 yX0_isChord wsX0_isChord) := goodIn_app (goodIn_of _ (by decide +kernel)) ggX0_faults_X0_isChord
set_option maxRecDepth 20000 in
theorem ggX0_faults_X0_isFault : GoodIn wsX0_faults wsX0_isFault := goodIn_r _ [11] (by decide +kernel) (by decide +kernel)
set_option maxRecDepth 20000 in
theorem gX0_faults_X0_isFault : GoodIn wsX0_faults (va_wsS RX0 77 yX0_isFault wsX0_isFault) := goodIn_app (goodIn_of _ (by decide +kernel)) ggX0_faults_X0_isFault
set_option maxRecDepth 20000 in
theorem ggX0_faults_X0_faultsOf : GoodIn wsX0_faults wsX0_faultsOf := goodIn_r _ [15, 16, 17, 18, 6, 19, 20, 21, 22, 23, 3, 4, 5, 7, 8, 24, 25, 26, 27, 28, 29, 30, 31, 32, 33, 34, 35, 36, 37, 38, 39, 40, 41, 42, 43, 44, 45, 46, 47, 48, 49, 50, 51, 52, 53, 54, 55, 56, 57, 58, 59, 60, 61, 62, 63, 64, 65, 66, 67, 68, 69] (by decide +kernel) (by decide +kernel)
set_option maxRecDepth 20000 in
theorem gX0_faults_X0_faultsOf : GoodIn wsX0_faults (wsV RX0 110 RX0 yX0_faultsOf wsX0_faultsOf) := goodIn_app (goodIn_of _ (by decide +kernel)) ggX0_faults_X0_faultsOf
theorem dX0_faults_0 : decode cX0_faults 0 = .ok (.aload_n 0, 1) := by decide +kernel
theorem dX0_faults_1 : decode cX0_faults 1 = .ok (.iload_n 1, 1) := by decide +kernel
theorem dX0_faults_2 : decode cX0_faults 2 = .ok (.invokevirtual 56, 3) := by decide +kernel
theorem dX0_faults_5 : decode cX0_faults 5 = .ok (.ifCond .eq 10, 3) := by decide +kernel
theorem dX0_faults_8 : decode cX0_faults 8 = .ok (.iload_n 2, 1) := by decide +kernel
theorem dX0_faults_9 : decode cX0_faults 9 = .ok (.invokestatic 77, 3) := by decide +kernel
theorem dX0_faults_12 : decode cX0_faults 12 = .ok (.ifCond .ne 13, 3) := by decide +kernel
theorem dX0_faults_15 : decode cX0_faults 15 = .ok (.new 59, 3) := by decide +kernel
theorem dX0_faults_18 : decode cX0_faults 18 = .ok (.dup, 1) := by decide +kernel
theorem dX0_faults_19 : decode cX0_faults 19 = .ok (.ldc 108, 2) := by decide +kernel
theorem dX0_faults_21 : decode cX0_faults 21 = .ok (.invokespecial 63, 3) := by decide +kernel
theorem dX0_faults_24 : decode cX0_faults 24 = .ok (.athrow, 1) := by decide +kernel
theorem dX0_faults_25 : decode cX0_faults 25 = .ok (.aload_n 0, 1) := by decide +kernel
theorem dX0_faults_26 : decode cX0_faults 26 = .ok (.iload_n 1, 1) := by decide +kernel
theorem dX0_faults_27 : decode cX0_faults 27 = .ok (.iload_n 2, 1) := by decide +kernel
theorem dX0_faults_28 : decode cX0_faults 28 = .ok (.invokevirtual 110, 3) := by decide +kernel
theorem dX0_faults_31 : decode cX0_faults 31 = .ok (.ireturn, 1) := by decide +kernel
set_option maxRecDepth 20000 in
theorem ggX0_count_X0_countOf : GoodIn wsX0_count wsX0_countOf := goodIn_r _ [7, 8, 9, 10, 11, 12, 6, 13, 14, 15, 16, 17, 18, 19, 20, 21, 22, 23, 24, 25, 26, 27, 28, 29, 30, 31, 32, 33, 34, 35, 36, 37, 38, 39, 40, 41, 42, 43, 44, 45, 46, 47, 48, 49, 50, 51, 52, 53, 54, 55, 56, 57, 58, 59, 60, 61, 62, 63, 64, 65, 66, 67, 68, 69, 70, 71, 72, 73, 74, 75, 76, 77, 78, 79, 80, 81, 82, 83, 84, 85, 86, 87, 88, 89, 90, 91, 92, 93, 94, 95, 96] (by decide +kernel) (by decide +kernel)
set_option maxRecDepth 20000 in
theorem gX0_count_X0_countOf : GoodIn wsX0_count (wsV RX0 115 RX0 yX0_countOf wsX0_countOf) := goodIn_app (goodIn_of _ (by decide +kernel)) ggX0_count_X0_countOf
theorem dX0_count_0 : decode cX0_count 0 = .ok (.iload_n 1, 1) := by decide +kernel
theorem dX0_count_1 : decode cX0_count 1 = .ok (.ifCond .lt 9, 3) := by decide +kernel
theorem dX0_count_4 : decode cX0_count 4 = .ok (.iload_n 1, 1) := by decide +kernel
theorem dX0_count_5 : decode cX0_count 5 = .ok (.bipush 7, 2) := by decide +kernel
theorem dX0_count_7 : decode cX0_count 7 = .ok (.if_icmp .lt 13, 3) := by decide +kernel
theorem dX0_count_10 : decode cX0_count 10 = .ok (.new 59, 3) := by decide +kernel
theorem dX0_count_13 : decode cX0_count 13 = .ok (.dup, 1) := by decide +kernel
theorem dX0_count_14 : decode cX0_count 14 = .ok (.ldc 113, 2) := by decide +kernel
theorem dX0_count_16 : decode cX0_count 16 = .ok (.invokespecial 63, 3) := by decide +kernel
theorem dX0_count_19 : decode cX0_count 19 = .ok (.athrow, 1) := by decide +kernel
theorem dX0_count_20 : decode cX0_count 20 = .ok (.aload_n 0, 1) := by decide +kernel
theorem dX0_count_21 : decode cX0_count 21 = .ok (.iload_n 1, 1) := by decide +kernel
theorem dX0_count_22 : decode cX0_count 22 = .ok (.invokevirtual 115, 3) := by decide +kernel
theorem dX0_count_25 : decode cX0_count 25 = .ok (.ireturn, 1) := by decide +kernel
set_option maxRecDepth 20000 in
theorem ggX0_pitch_X0_isNote : GoodIn wsX0_pitch wsX0_isNote := goodIn_r _ [6] (by decide +kernel) (by decide +kernel)
set_option maxRecDepth 20000 in
theorem gX0_pitch_X0_isNote : GoodIn wsX0_pitch (va_wsS RX0 118 yX0_isNote wsX0_isNote) := goodIn_app (goodIn_of _ (by decide +kernel)) ggX0_pitch_X0_isNote
set_option maxRecDepth 20000 in
theorem ggX0_pitch_X0_pitchOf : GoodIn wsX0_pitch wsX0_pitchOf := goodIn_r _ [10, 11, 12, 13, 14, 15, 16, 17, 18, 19] (by decide +kernel) (by decide +kernel)
set_option maxRecDepth 20000 in
theorem gX0_pitch_X0_pitchOf : GoodIn wsX0_pitch (wsV RX0 123 RX0 yX0_pitchOf wsX0_pitchOf) := goodIn_app (goodIn_of _ (by decide +kernel)) ggX0_pitch_X0_pitchOf
theorem dX0_pitch_0 : decode cX0_pitch 0 = .ok (.iload_n 1, 1) := by decide +kernel
theorem dX0_pitch_1 : decode cX0_pitch 1 = .ok (.invokestatic 118, 3) := by decide +kernel
theorem dX0_pitch_4 : decode cX0_pitch 4 = .ok (.ifCond .ne 13, 3) := by decide +kernel
theorem dX0_pitch_7 : decode cX0_pitch 7 = .ok (.new 34, 3) := by decide +kernel
theorem dX0_pitch_10 : decode cX0_pitch 10 = .ok (.dup, 1) := by decide +kernel
theorem dX0_pitch_11 : decode cX0_pitch 11 = .ok (.ldc 121, 2) := by decide +kernel
theorem dX0_pitch_13 : decode cX0_pitch 13 = .ok (.invokespecial 38, 3) := by decide +kernel
theorem dX0_pitch_16 : decode cX0_pitch 16 = .ok (.athrow, 1) := by decide +kernel
theorem dX0_pitch_17 : decode cX0_pitch 17 = .ok (.aload_n 0, 1) := by decide +kernel
theorem dX0_pitch_18 : decode cX0_pitch 18 = .ok (.iload_n 1, 1) := by decide +kernel
theorem dX0_pitch_19 : decode cX0_pitch 19 = .ok (.invokevirtual 123, 3) := by decide +kernel
theorem dX0_pitch_22 : decode cX0_pitch 22 = .ok (.ireturn, 1) := by decide +kernel
set_option maxRecDepth 20000 in
theorem ggX0_fits_X0_isChord : GoodIn wsX0_fits wsX0_isChord := goodIn_r _ [9, 10, 36, 37, 38, 39, 40, 41] (by decide +kernel) (by decide +kernel)
set_option maxRecDepth 20000 in
theorem gX0_fits_X0_isChord : GoodIn wsX0_fits (wsV RX0 56 RX0 yX0_isChord wsX0_isChord) := goodIn_app (goodIn_of _ (by decide +kernel)) ggX0_fits_X0_isChord
set_option maxRecDepth 20000 in
theorem ggX0_fits_X0_isUpperVoice : GoodIn wsX0_fits wsX0_isUpperVoice := goodIn_r _ [13] (by decide +kernel) (by decide +kernel)
set_option maxRecDepth 20000 in
theorem gX0_fits_X0_isUpperVoice : GoodIn wsX0_fits (va_wsS RX0 68 yX0_isUpperVoice wsX0_isUpperVoice) := goodIn_app (goodIn_of _ (by decide +kernel)) ggX0_fits_X0_isUpperVoice
set_option maxRecDepth 20000 in
theorem ggX0_fits_X0_isNote : GoodIn wsX0_fits wsX0_isNote := goodIn_r _ [16] (by decide +kernel) (by decide +kernel)
set_option maxRecDepth 20000 in
theorem gX0_fits_X0_isNote : GoodIn wsX0_fits (va_wsS RX0 118 yX0_isNote wsX0_isNote) := goodIn_app (goodIn_of _ (by decide +kernel)) ggX0_fits_X0_isNote
set_option maxRecDepth 20000 in
theorem ggX0_fits_X0_isNoteOf : GoodIn wsX0_fits wsX0_isNoteOf := goodIn_r _ [19, 20, 21] (by decide +kernel) (by decide +kernel)
set_option maxRecDepth 20000 in
theorem gX0_fits_X0_isNoteOf : GoodIn wsX0_fits (va_wsS RX0 30 yX0_isNoteOf wsX0_isNoteOf) := goodIn_app (goodIn_of _ (by decide +kernel)) ggX0_fits_X0_isNoteOf
set_option maxRecDepth 20000 in
theorem ggX0_fits_X0_belongs : GoodIn wsX0_fits wsX0_belongs := goodIn_r _ [25, 26, 27, 28, 29, 30, 8, 31, 32, 33, 34, 35, 36, 37, 38, 39, 40, 41] (by decide +kernel) (by decide +kernel)
set_option maxRecDepth 20000 in
theorem gX0_fits_X0_belongs : GoodIn wsX0_fits (wsV RX0 126 RX0 yX0_belongs wsX0_belongs) := goodIn_app (goodIn_of _ (by decide +kernel)) ggX0_fits_X0_belongs
theorem dX0_fits_0 : decode cX0_fits 0 = .ok (.aload_n 0, 1) := by decide +kernel
theorem dX0_fits_1 : decode cX0_fits 1 = .ok (.iload_n 1, 1) := by decide +kernel
theorem dX0_fits_2 : decode cX0_fits 2 = .ok (.invokevirtual 56, 3) := by decide +kernel
theorem dX0_fits_5 : decode cX0_fits 5 = .ok (.ifCond .eq 10, 3) := by decide +kernel
theorem dX0_fits_8 : decode cX0_fits 8 = .ok (.iload_n 2, 1) := by decide +kernel
theorem dX0_fits_9 : decode cX0_fits 9 = .ok (.invokestatic 68, 3) := by decide +kernel
theorem dX0_fits_12 : decode cX0_fits 12 = .ok (.ifCond .ne 13, 3) := by decide +kernel
theorem dX0_fits_15 : decode cX0_fits 15 = .ok (.new 59, 3) := by decide +kernel
theorem dX0_fits_18 : decode cX0_fits 18 = .ok (.dup, 1) := by decide +kernel
theorem dX0_fits_19 : decode cX0_fits 19 = .ok (.ldc 71, 2) := by decide +kernel
theorem dX0_fits_21 : decode cX0_fits 21 = .ok (.invokespecial 63, 3) := by decide +kernel
theorem dX0_fits_24 : decode cX0_fits 24 = .ok (.athrow, 1) := by decide +kernel
theorem dX0_fits_25 : decode cX0_fits 25 = .ok (.iload_n 3, 1) := by decide +kernel
theorem dX0_fits_26 : decode cX0_fits 26 = .ok (.invokestatic 118, 3) := by decide +kernel
theorem dX0_fits_29 : decode cX0_fits 29 = .ok (.ifCond .ne 13, 3) := by decide +kernel
theorem dX0_fits_32 : decode cX0_fits 32 = .ok (.new 34, 3) := by decide +kernel
theorem dX0_fits_35 : decode cX0_fits 35 = .ok (.dup, 1) := by decide +kernel
theorem dX0_fits_36 : decode cX0_fits 36 = .ok (.ldc 121, 2) := by decide +kernel
theorem dX0_fits_38 : decode cX0_fits 38 = .ok (.invokespecial 38, 3) := by decide +kernel
theorem dX0_fits_41 : decode cX0_fits 41 = .ok (.athrow, 1) := by decide +kernel
theorem dX0_fits_42 : decode cX0_fits 42 = .ok (.iload_n 2, 1) := by decide +kernel
theorem dX0_fits_43 : decode cX0_fits 43 = .ok (.iload_n 3, 1) := by decide +kernel
theorem dX0_fits_44 : decode cX0_fits 44 = .ok (.invokestatic 30, 3) := by decide +kernel
theorem dX0_fits_47 : decode cX0_fits 47 = .ok (.ifCond .eq 16, 3) := by decide +kernel
theorem dX0_fits_50 : decode cX0_fits 50 = .ok (.aload_n 0, 1) := by decide +kernel
theorem dX0_fits_51 : decode cX0_fits 51 = .ok (.iload_n 1, 1) := by decide +kernel
theorem dX0_fits_52 : decode cX0_fits 52 = .ok (.iload_n 3, 1) := by decide +kernel
theorem dX0_fits_53 : decode cX0_fits 53 = .ok (.invokevirtual 126, 3) := by decide +kernel
theorem dX0_fits_56 : decode cX0_fits 56 = .ok (.ifCond .eq 7, 3) := by decide +kernel
theorem dX0_fits_59 : decode cX0_fits 59 = .ok (.iconst 1, 1) := by decide +kernel
theorem dX0_fits_60 : decode cX0_fits 60 = .ok (.goto 4, 3) := by decide +kernel
theorem dX0_fits_63 : decode cX0_fits 63 = .ok (.iconst 0, 1) := by decide +kernel
theorem dX0_fits_64 : decode cX0_fits 64 = .ok (.ireturn, 1) := by decide +kernel
set_option maxRecDepth 20000 in
theorem ggX0_ways_X0_isChord : GoodIn wsX0_ways wsX0_isChord := goodIn_r _ [7, 8, 42, 43, 44, 45, 46, 47] (by decide +kernel) (by decide +kernel)
set_option maxRecDepth 20000 in
theorem gX0_ways_X0_isChord : GoodIn wsX0_ways (wsV RX0 56 RX0 yX0_isChord wsX0_isChord) := goodIn_app (goodIn_of _ (by decide +kernel)) ggX0_ways_X0_isChord
set_option maxRecDepth 20000 in
theorem ggX0_ways_X0_listWays : GoodIn wsX0_ways wsX0_listWays := goodIn_r _ [12, 13, 14, 15, 16, 17, 18, 19, 20, 21, 6, 22, 23, 24, 25, 26, 27, 28, 29, 30, 31, 32, 33, 34, 35, 36, 37, 38, 39, 40, 41, 42, 43, 44, 45, 46, 47] (by decide +kernel) (by decide +kernel)
set_option maxRecDepth 20000 in
theorem gX0_ways_X0_listWays : GoodIn wsX0_ways (wsV RX0 129 RX0 yX0_listWays wsX0_listWays) := goodIn_app (goodIn_of _ (by decide +kernel)) ggX0_ways_X0_listWays
theorem dX0_ways_0 : decode cX0_ways 0 = .ok (.aload_n 0, 1) := by decide +kernel
theorem dX0_ways_1 : decode cX0_ways 1 = .ok (.iload_n 1, 1) := by decide +kernel
theorem dX0_ways_2 : decode cX0_ways 2 = .ok (.invokevirtual 56, 3) := by decide +kernel
theorem dX0_ways_5 : decode cX0_ways 5 = .ok (.ifCond .ne 13, 3) := by decide +kernel
theorem dX0_ways_8 : decode cX0_ways 8 = .ok (.new 59, 3) := by decide +kernel
theorem dX0_ways_11 : decode cX0_ways 11 = .ok (.dup, 1) := by decide +kernel
theorem dX0_ways_12 : decode cX0_ways 12 = .ok (.ldc 61, 2) := by decide +kernel
theorem dX0_ways_14 : decode cX0_ways 14 = .ok (.invokespecial 63, 3) := by decide +kernel
theorem dX0_ways_17 : decode cX0_ways 17 = .ok (.athrow, 1) := by decide +kernel
theorem dX0_ways_18 : decode cX0_ways 18 = .ok (.aload_n 0, 1) := by decide +kernel
theorem dX0_ways_19 : decode cX0_ways 19 = .ok (.iload_n 1, 1) := by decide +kernel
theorem dX0_ways_20 : decode cX0_ways 20 = .ok (.invokevirtual 129, 3) := by decide +kernel
theorem dX0_ways_23 : decode cX0_ways 23 = .ok (.ireturn, 1) := by decide +kernel
set_option maxRecDepth 20000 in
theorem ggX0_would_X0_isChord : GoodIn wsX0_would wsX0_isChord := goodIn_r _ [9, 10, 105, 106, 107, 108, 109, 110] (by decide +kernel) (by decide +kernel)
set_option maxRecDepth 20000 in
theorem gX0_would_X0_isChord : GoodIn wsX0_would (wsV RX0 56 RX0 yX0_isChord wsX0_isChord) := goodIn_app (goodIn_of _ (by decide +kernel)) ggX0_would_X0_isChord
set_option maxRecDepth 20000 in
theorem ggX0_would_X0_isUpperVoice : GoodIn wsX0_would wsX0_isUpperVoice := goodIn_r _ [13] (by decide +kernel) (by decide +kernel)
set_option maxRecDepth 20000 in
theorem gX0_would_X0_isUpperVoice : GoodIn wsX0_would (va_wsS RX0 68 yX0_isUpperVoice wsX0_isUpperVoice) := goodIn_app (goodIn_of _ (by decide +kernel)) ggX0_would_X0_isUpperVoice
set_option maxRecDepth 20000 in
theorem ggX0_would_X0_isNoteOf : GoodIn wsX0_would wsX0_isNoteOf := goodIn_r _ [16, 17, 18] (by decide +kernel) (by decide +kernel)
set_option maxRecDepth 20000 in
theorem gX0_would_X0_isNoteOf : GoodIn wsX0_would (va_wsS RX0 30 yX0_isNoteOf wsX0_isNoteOf) := goodIn_app (goodIn_of _ (by decide +kernel)) ggX0_would_X0_isNoteOf
set_option maxRecDepth 20000 in
theorem ggX0_would_X0_exchangeNote : GoodIn wsX0_would wsX0_exchangeNote := goodIn_r _ [22, 23, 105, 106, 107, 108, 109, 110] (by decide +kernel) (by decide +kernel)
set_option maxRecDepth 20000 in
theorem gX0_would_X0_exchangeNote : GoodIn wsX0_would (wsV RX0 64 RX0 yX0_exchangeNote wsX0_exchangeNote) := goodIn_app (goodIn_of _ (by decide +kernel)) ggX0_would_X0_exchangeNote
set_option maxRecDepth 20000 in
theorem ggX0_would_X0_countOf : GoodIn wsX0_would wsX0_countOf := goodIn_r _ [27, 28, 10, 29, 30, 31, 8, 32, 5, 6, 7, 9, 33, 34, 35, 36, 23, 37, 38, 39, 40, 41, 42, 43, 44, 45, 46, 47, 48, 49, 50, 51, 52, 53, 54, 55, 56, 57, 58, 59, 60, 61, 62, 63, 64, 65, 66, 67, 68, 69, 70, 71, 72, 73, 74, 75, 76, 77, 78, 79, 80, 81, 82, 83, 84, 85, 86, 87, 88, 89, 90, 91, 92, 93, 94, 95, 96, 97, 98, 99, 100, 101, 102, 103, 104, 105, 106, 107, 108, 109, 110] (by decide +kernel) (by decide +kernel)
set_option maxRecDepth 20000 in
theorem gX0_would_X0_countOf : GoodIn wsX0_would (wsV RX0 115 RX0 yX0_countOf wsX0_countOf) := goodIn_app (goodIn_of _ (by decide +kernel)) ggX0_would_X0_countOf
theorem dX0_would_0 : decode cX0_would 0 = .ok (.aload_n 0, 1) := by decide +kernel
theorem dX0_would_1 : decode cX0_would 1 = .ok (.iload_n 1, 1) := by decide +kernel
theorem dX0_would_2 : decode cX0_would 2 = .ok (.invokevirtual 56, 3) := by decide +kernel
theorem dX0_would_5 : decode cX0_would 5 = .ok (.ifCond .eq 10, 3) := by decide +kernel
theorem dX0_would_8 : decode cX0_would 8 = .ok (.iload_n 2, 1) := by decide +kernel
theorem dX0_would_9 : decode cX0_would 9 = .ok (.invokestatic 68, 3) := by decide +kernel
theorem dX0_would_12 : decode cX0_would 12 = .ok (.ifCond .ne 13, 3) := by decide +kernel
theorem dX0_would_15 : decode cX0_would 15 = .ok (.new 59, 3) := by decide +kernel
theorem dX0_would_18 : decode cX0_would 18 = .ok (.dup, 1) := by decide +kernel
theorem dX0_would_19 : decode cX0_would 19 = .ok (.ldc 71, 2) := by decide +kernel
theorem dX0_would_21 : decode cX0_would 21 = .ok (.invokespecial 63, 3) := by decide +kernel
theorem dX0_would_24 : decode cX0_would 24 = .ok (.athrow, 1) := by decide +kernel
theorem dX0_would_25 : decode cX0_would 25 = .ok (.iload_n 3, 1) := by decide +kernel
theorem dX0_would_26 : decode cX0_would 26 = .ok (.iconst (-1), 1) := by decide +kernel
theorem dX0_would_27 : decode cX0_would 27 = .ok (.if_icmp .eq 21, 3) := by decide +kernel
theorem dX0_would_30 : decode cX0_would 30 = .ok (.iload_n 2, 1) := by decide +kernel
theorem dX0_would_31 : decode cX0_would 31 = .ok (.iload_n 3, 1) := by decide +kernel
theorem dX0_would_32 : decode cX0_would 32 = .ok (.invokestatic 30, 3) := by decide +kernel
theorem dX0_would_35 : decode cX0_would 35 = .ok (.ifCond .ne 13, 3) := by decide +kernel
theorem dX0_would_38 : decode cX0_would 38 = .ok (.new 34, 3) := by decide +kernel
theorem dX0_would_41 : decode cX0_would 41 = .ok (.dup, 1) := by decide +kernel
theorem dX0_would_42 : decode cX0_would 42 = .ok (.ldc 73, 2) := by decide +kernel
theorem dX0_would_44 : decode cX0_would 44 = .ok (.invokespecial 38, 3) := by decide +kernel
theorem dX0_would_47 : decode cX0_would 47 = .ok (.athrow, 1) := by decide +kernel
theorem dX0_would_48 : decode cX0_would 48 = .ok (.aload_n 0, 1) := by decide +kernel
theorem dX0_would_49 : decode cX0_would 49 = .ok (.iload_n 1, 1) := by decide +kernel
theorem dX0_would_50 : decode cX0_would 50 = .ok (.iload_n 2, 1) := by decide +kernel
theorem dX0_would_51 : decode cX0_would 51 = .ok (.iload_n 3, 1) := by decide +kernel
theorem dX0_would_52 : decode cX0_would 52 = .ok (.invokevirtual 64, 3) := by decide +kernel
theorem dX0_would_55 : decode cX0_would 55 = .ok (.istore 4, 2) := by decide +kernel
theorem dX0_would_57 : decode cX0_would 57 = .ok (.aload_n 0, 1) := by decide +kernel
theorem dX0_would_58 : decode cX0_would 58 = .ok (.iconst 5, 1) := by decide +kernel
theorem dX0_would_59 : decode cX0_would 59 = .ok (.invokevirtual 115, 3) := by decide +kernel
theorem dX0_would_62 : decode cX0_would 62 = .ok (.istore 5, 2) := by decide +kernel
theorem dX0_would_64 : decode cX0_would 64 = .ok (.aload_n 0, 1) := by decide +kernel
theorem dX0_would_65 : decode cX0_would 65 = .ok (.iload_n 1, 1) := by decide +kernel
theorem dX0_would_66 : decode cX0_would 66 = .ok (.iload_n 2, 1) := by decide +kernel
theorem dX0_would_67 : decode cX0_would 67 = .ok (.iload 4, 2) := by decide +kernel
theorem dX0_would_69 : decode cX0_would 69 = .ok (.invokevirtual 64, 3) := by decide +kernel
theorem dX0_would_72 : decode cX0_would 72 = .ok (.pop, 1) := by decide +kernel
theorem dX0_would_73 : decode cX0_would 73 = .ok (.iload 5, 2) := by decide +kernel
theorem dX0_would_75 : decode cX0_would 75 = .ok (.ireturn, 1) := by decide +kernel
set_option maxRecDepth 20000 in
theorem ggX0_best_X0_isChord : GoodIn wsX0_best wsX0_isChord := goodIn_r _ [7, 8, 113, 114, 115, 116, 117, 118] (by decide +kernel) (by decide +kernel)
set_option maxRecDepth 20000 in
theorem gX0_best_X0_isChord : GoodIn wsX0_best (wsV RX0 56 RX0 yX0_isChord wsX0_isChord) := goodIn_app (goodIn_of _ (by decide +kernel)) ggX0_best_X0_isChord
set_option maxRecDepth 20000 in
theorem ggX0_best_X0_bestWay : GoodIn wsX0_best wsX0_bestWay := goodIn_r _ [12, 13, 14, 15, 16, 6, 17, 18, 19, 20, 21, 22, 23, 24, 25, 26, 27, 28, 29, 30, 31, 32, 33, 34, 35, 36, 37, 38, 39, 40, 41, 42, 43, 44, 45, 46, 47, 48, 49, 50, 51, 52, 53, 54, 55, 56, 57, 58, 59, 60, 61, 62, 3, 4, 5, 7, 8, 63, 64, 65, 66, 67, 68, 69, 70, 71, 72, 73, 74, 75, 76, 77, 78, 79, 80, 81, 82, 83, 84, 85, 86, 87, 88, 89, 90, 91, 92, 93, 94, 95, 96, 97, 98, 99, 100, 101, 102, 103, 104, 105, 106, 107, 108, 109, 110, 111, 112, 113, 114, 115, 116, 117, 118] (by decide +kernel) (by decide +kernel)
set_option maxRecDepth 20000 in
theorem gX0_best_X0_bestWay : GoodIn wsX0_best (wsV RX0 84 RX0 yX0_bestWay wsX0_bestWay) := goodIn_app (goodIn_of _ (by decide +kernel)) ggX0_best_X0_bestWay
theorem dX0_best_0 : decode cX0_best 0 = .ok (.aload_n 0, 1) := by decide +kernel
theorem dX0_best_1 : decode cX0_best 1 = .ok (.iload_n 1, 1) := by decide +kernel
theorem dX0_best_2 : decode cX0_best 2 = .ok (.invokevirtual 56, 3) := by decide +kernel
theorem dX0_best_5 : decode cX0_best 5 = .ok (.ifCond .ne 13, 3) := by decide +kernel
theorem dX0_best_8 : decode cX0_best 8 = .ok (.new 59, 3) := by decide +kernel
theorem dX0_best_11 : decode cX0_best 11 = .ok (.dup, 1) := by decide +kernel
theorem dX0_best_12 : decode cX0_best 12 = .ok (.ldc 61, 2) := by decide +kernel
theorem dX0_best_14 : decode cX0_best 14 = .ok (.invokespecial 63, 3) := by decide +kernel
theorem dX0_best_17 : decode cX0_best 17 = .ok (.athrow, 1) := by decide +kernel
theorem dX0_best_18 : decode cX0_best 18 = .ok (.aload_n 0, 1) := by decide +kernel
theorem dX0_best_19 : decode cX0_best 19 = .ok (.iload_n 1, 1) := by decide +kernel
theorem dX0_best_20 : decode cX0_best 20 = .ok (.invokevirtual 84, 3) := by decide +kernel
theorem dX0_best_23 : decode cX0_best 23 = .ok (.ireturn, 1) := by decide +kernel
set_option maxRecDepth 20000 in
theorem ggX0_advise_X0_isChord : GoodIn wsX0_advise wsX0_isChord := goodIn_r _ [9, 10, 113, 114, 115, 116, 117, 118] (by decide +kernel) (by decide +kernel)
set_option maxRecDepth 20000 in
theorem gX0_advise_X0_isChord : GoodIn wsX0_advise (wsV RX0 56 RX0 yX0_isChord wsX0_isChord) := goodIn_app (goodIn_of _ (by decide +kernel)) ggX0_advise_X0_isChord
set_option maxRecDepth 20000 in
theorem ggX0_advise_X0_noteAt : GoodIn wsX0_advise wsX0_noteAt := goodIn_r _ [14, 15, 113, 114, 115, 116, 117, 118] (by decide +kernel) (by decide +kernel)
set_option maxRecDepth 20000 in
theorem gX0_advise_X0_noteAt : GoodIn wsX0_advise (wsV RX0 99 RX0 yX0_noteAt wsX0_noteAt) := goodIn_app (goodIn_of _ (by decide +kernel)) ggX0_advise_X0_noteAt
set_option maxRecDepth 20000 in
theorem ggX0_advise_X0_bestWay : GoodIn wsX0_advise wsX0_bestWay := goodIn_r _ [19, 20, 11, 12, 13, 8, 14, 15, 21, 22, 23, 24, 25, 26, 27, 28, 29, 30, 31, 32, 33, 34, 4, 3, 35, 36, 37, 38, 39, 40, 41, 42, 43, 44, 45, 46, 47, 48, 49, 50, 51, 52, 53, 54, 55, 56, 57, 58, 59, 60, 61, 62, 5, 6, 7, 9, 10, 63, 64, 65, 66, 67, 68, 69, 70, 71, 72, 73, 74, 75, 76, 77, 78, 79, 80, 81, 82, 83, 84, 85, 86, 87, 88, 89, 90, 91, 92, 93, 94, 95, 96, 97, 98, 99, 100, 101, 102, 103, 104, 105, 106, 107, 108, 109, 110, 111, 112, 113, 114, 115, 116, 117, 118] (by decide +kernel) (by decide +kernel)
set_option maxRecDepth 20000 in
theorem gX0_advise_X0_bestWay : GoodIn wsX0_advise (wsV RX0 84 RX0 yX0_bestWay wsX0_bestWay) := goodIn_app (goodIn_of _ (by decide +kernel)) ggX0_advise_X0_bestWay
set_option maxRecDepth 20000 in
theorem ggX0_advise_X0_putWay : GoodIn wsX0_advise wsX0_putWay := goodIn_r _ [49, 50, 51, 52, 8, 53, 15, 113, 114, 115, 116, 117, 118] (by decide +kernel) (by decide +kernel)
set_option maxRecDepth 20000 in
theorem gX0_advise_X0_putWay : GoodIn wsX0_advise (wsV RX0 90 RX0 yX0_putWay wsX0_putWay) := goodIn_app (goodIn_of _ (by decide +kernel)) ggX0_advise_X0_putWay
set_option maxRecDepth 20000 in
theorem ggX0_advise_X0_costOf : GoodIn wsX0_advise wsX0_costOf := goodIn_r _ [57, 58, 59, 60, 61, 8, 62, 5, 6, 7, 9, 10, 11, 12, 13, 14, 15, 63, 64, 65, 66, 42, 43, 44, 45, 4, 3, 35, 36, 37, 67, 68, 69, 70, 71, 72, 29, 73, 74, 75, 76, 77, 78, 79, 80, 81, 82, 83, 84, 85, 86, 87, 88, 89, 90, 91, 92, 93, 94, 95, 96, 97, 98, 99, 100, 101, 102, 103, 104, 105, 106, 107, 108, 109, 110, 111, 112, 113, 114, 115, 116, 117, 118] (by decide +kernel) (by decide +kernel)
set_option maxRecDepth 20000 in
theorem gX0_advise_X0_costOf : GoodIn wsX0_advise (wsV RX0 94 RX0 yX0_costOf wsX0_costOf) := goodIn_app (goodIn_of _ (by decide +kernel)) ggX0_advise_X0_costOf
set_option maxRecDepth 20000 in
theorem ggX0_advise_X0_putNotes : GoodIn wsX0_advise wsX0_putNotes := goodIn_r _ [53, 15, 113, 114, 115, 116, 117, 118] (by decide +kernel) (by decide +kernel)
set_option maxRecDepth 20000 in
theorem gX0_advise_X0_putNotes : GoodIn wsX0_advise (wsV RX0 52 RX0 yX0_putNotes wsX0_putNotes) := goodIn_app (goodIn_of _ (by decide +kernel)) ggX0_advise_X0_putNotes
theorem dX0_advise_0 : decode cX0_advise 0 = .ok (.aload_n 0, 1) := by decide +kernel
theorem dX0_advise_1 : decode cX0_advise 1 = .ok (.iload_n 1, 1) := by decide +kernel
theorem dX0_advise_2 : decode cX0_advise 2 = .ok (.invokevirtual 56, 3) := by decide +kernel
theorem dX0_advise_5 : decode cX0_advise 5 = .ok (.ifCond .ne 13, 3) := by decide +kernel
theorem dX0_advise_8 : decode cX0_advise 8 = .ok (.new 59, 3) := by decide +kernel
theorem dX0_advise_11 : decode cX0_advise 11 = .ok (.dup, 1) := by decide +kernel
theorem dX0_advise_12 : decode cX0_advise 12 = .ok (.ldc 61, 2) := by decide +kernel
theorem dX0_advise_14 : decode cX0_advise 14 = .ok (.invokespecial 63, 3) := by decide +kernel
theorem dX0_advise_17 : decode cX0_advise 17 = .ok (.athrow, 1) := by decide +kernel
theorem dX0_advise_18 : decode cX0_advise 18 = .ok (.aload_n 0, 1) := by decide +kernel
theorem dX0_advise_19 : decode cX0_advise 19 = .ok (.getfield 17, 3) := by decide +kernel
theorem dX0_advise_22 : decode cX0_advise 22 = .ok (.iload_n 1, 1) := by decide +kernel
theorem dX0_advise_23 : decode cX0_advise 23 = .ok (.iaload, 1) := by decide +kernel
theorem dX0_advise_24 : decode cX0_advise 24 = .ok (.istore_n 2, 1) := by decide +kernel
theorem dX0_advise_25 : decode cX0_advise 25 = .ok (.aload_n 0, 1) := by decide +kernel
theorem dX0_advise_26 : decode cX0_advise 26 = .ok (.iload_n 1, 1) := by decide +kernel
theorem dX0_advise_27 : decode cX0_advise 27 = .ok (.iconst 1, 1) := by decide +kernel
theorem dX0_advise_28 : decode cX0_advise 28 = .ok (.invokevirtual 99, 3) := by decide +kernel
theorem dX0_advise_31 : decode cX0_advise 31 = .ok (.istore_n 3, 1) := by decide +kernel
theorem dX0_advise_32 : decode cX0_advise 32 = .ok (.aload_n 0, 1) := by decide +kernel
theorem dX0_advise_33 : decode cX0_advise 33 = .ok (.iload_n 1, 1) := by decide +kernel
theorem dX0_advise_34 : decode cX0_advise 34 = .ok (.iconst 2, 1) := by decide +kernel
theorem dX0_advise_35 : decode cX0_advise 35 = .ok (.invokevirtual 99, 3) := by decide +kernel
theorem dX0_advise_38 : decode cX0_advise 38 = .ok (.istore 4, 2) := by decide +kernel
theorem dX0_advise_40 : decode cX0_advise 40 = .ok (.aload_n 0, 1) := by decide +kernel
theorem dX0_advise_41 : decode cX0_advise 41 = .ok (.iload_n 1, 1) := by decide +kernel
theorem dX0_advise_42 : decode cX0_advise 42 = .ok (.iconst 3, 1) := by decide +kernel
theorem dX0_advise_43 : decode cX0_advise 43 = .ok (.invokevirtual 99, 3) := by decide +kernel
theorem dX0_advise_46 : decode cX0_advise 46 = .ok (.istore 5, 2) := by decide +kernel
theorem dX0_advise_48 : decode cX0_advise 48 = .ok (.iconst (-1), 1) := by decide +kernel
theorem dX0_advise_49 : decode cX0_advise 49 = .ok (.istore 6, 2) := by decide +kernel
theorem dX0_advise_51 : decode cX0_advise 51 = .ok (.iconst 0, 1) := by decide +kernel
theorem dX0_advise_52 : decode cX0_advise 52 = .ok (.istore 7, 2) := by decide +kernel
theorem dX0_advise_54 : decode cX0_advise 54 = .ok (.iconst 0, 1) := by decide +kernel
theorem dX0_advise_55 : decode cX0_advise 55 = .ok (.istore 8, 2) := by decide +kernel
theorem dX0_advise_57 : decode cX0_advise 57 = .ok (.iload 8, 2) := by decide +kernel
theorem dX0_advise_59 : decode cX0_advise 59 = .ok (.getstatic 132, 3) := by decide +kernel
theorem dX0_advise_62 : decode cX0_advise 62 = .ok (.arraylength, 1) := by decide +kernel
theorem dX0_advise_63 : decode cX0_advise 63 = .ok (.if_icmp .ge 71, 3) := by decide +kernel
theorem dX0_advise_66 : decode cX0_advise 66 = .ok (.aload_n 0, 1) := by decide +kernel
theorem dX0_advise_67 : decode cX0_advise 67 = .ok (.getfield 17, 3) := by decide +kernel
theorem dX0_advise_70 : decode cX0_advise 70 = .ok (.iload_n 1, 1) := by decide +kernel
theorem dX0_advise_71 : decode cX0_advise 71 = .ok (.iload 8, 2) := by decide +kernel
theorem dX0_advise_73 : decode cX0_advise 73 = .ok (.iastore, 1) := by decide +kernel
theorem dX0_advise_74 : decode cX0_advise 74 = .ok (.aload_n 0, 1) := by decide +kernel
theorem dX0_advise_75 : decode cX0_advise 75 = .ok (.iload_n 1, 1) := by decide +kernel
theorem dX0_advise_76 : decode cX0_advise 76 = .ok (.invokevirtual 84, 3) := by decide +kernel
theorem dX0_advise_79 : decode cX0_advise 79 = .ok (.istore 9, 2) := by decide +kernel
theorem dX0_advise_81 : decode cX0_advise 81 = .ok (.iload 9, 2) := by decide +kernel
theorem dX0_advise_83 : decode cX0_advise 83 = .ok (.ifCond .lt 45, 3) := by decide +kernel
theorem dX0_advise_86 : decode cX0_advise 86 = .ok (.aload_n 0, 1) := by decide +kernel
theorem dX0_advise_87 : decode cX0_advise 87 = .ok (.iload_n 1, 1) := by decide +kernel
theorem dX0_advise_88 : decode cX0_advise 88 = .ok (.iload 9, 2) := by decide +kernel
theorem dX0_advise_90 : decode cX0_advise 90 = .ok (.invokevirtual 90, 3) := by decide +kernel
theorem dX0_advise_93 : decode cX0_advise 93 = .ok (.aload_n 0, 1) := by decide +kernel
theorem dX0_advise_94 : decode cX0_advise 94 = .ok (.iload_n 1, 1) := by decide +kernel
theorem dX0_advise_95 : decode cX0_advise 95 = .ok (.invokevirtual 94, 3) := by decide +kernel
theorem dX0_advise_98 : decode cX0_advise 98 = .ok (.aload_n 0, 1) := by decide +kernel
theorem dX0_advise_99 : decode cX0_advise 99 = .ok (.iload_n 1, 1) := by decide +kernel
theorem dX0_advise_100 : decode cX0_advise 100 = .ok (.iconst 1, 1) := by decide +kernel
theorem dX0_advise_101 : decode cX0_advise 101 = .ok (.iadd, 1) := by decide +kernel
theorem dX0_advise_102 : decode cX0_advise 102 = .ok (.invokevirtual 94, 3) := by decide +kernel
theorem dX0_advise_105 : decode cX0_advise 105 = .ok (.iadd, 1) := by decide +kernel
theorem dX0_advise_106 : decode cX0_advise 106 = .ok (.istore 10, 2) := by decide +kernel
theorem dX0_advise_108 : decode cX0_advise 108 = .ok (.iload 6, 2) := by decide +kernel
theorem dX0_advise_110 : decode cX0_advise 110 = .ok (.ifCond .lt 10, 3) := by decide +kernel
theorem dX0_advise_113 : decode cX0_advise 113 = .ok (.iload 10, 2) := by decide +kernel
theorem dX0_advise_115 : decode cX0_advise 115 = .ok (.iload 7, 2) := by decide +kernel
theorem dX0_advise_117 : decode cX0_advise 117 = .ok (.if_icmp .ge 11, 3) := by decide +kernel
theorem dX0_advise_120 : decode cX0_advise 120 = .ok (.iload 8, 2) := by decide +kernel
theorem dX0_advise_122 : decode cX0_advise 122 = .ok (.istore 6, 2) := by decide +kernel
theorem dX0_advise_124 : decode cX0_advise 124 = .ok (.iload 10, 2) := by decide +kernel
theorem dX0_advise_126 : decode cX0_advise 126 = .ok (.istore 7, 2) := by decide +kernel
theorem dX0_advise_128 : decode cX0_advise 128 = .ok (.iinc 8 1, 3) := by decide +kernel
theorem dX0_advise_131 : decode cX0_advise 131 = .ok (.goto (-74), 3) := by decide +kernel
theorem dX0_advise_134 : decode cX0_advise 134 = .ok (.aload_n 0, 1) := by decide +kernel
theorem dX0_advise_135 : decode cX0_advise 135 = .ok (.getfield 17, 3) := by decide +kernel
theorem dX0_advise_138 : decode cX0_advise 138 = .ok (.iload_n 1, 1) := by decide +kernel
theorem dX0_advise_139 : decode cX0_advise 139 = .ok (.iload_n 2, 1) := by decide +kernel
theorem dX0_advise_140 : decode cX0_advise 140 = .ok (.iastore, 1) := by decide +kernel
theorem dX0_advise_141 : decode cX0_advise 141 = .ok (.aload_n 0, 1) := by decide +kernel
theorem dX0_advise_142 : decode cX0_advise 142 = .ok (.iload_n 1, 1) := by decide +kernel
theorem dX0_advise_143 : decode cX0_advise 143 = .ok (.iload_n 3, 1) := by decide +kernel
theorem dX0_advise_144 : decode cX0_advise 144 = .ok (.iload 4, 2) := by decide +kernel
theorem dX0_advise_146 : decode cX0_advise 146 = .ok (.iload 5, 2) := by decide +kernel
theorem dX0_advise_148 : decode cX0_advise 148 = .ok (.invokevirtual 52, 3) := by decide +kernel
theorem dX0_advise_151 : decode cX0_advise 151 = .ok (.iload 6, 2) := by decide +kernel
theorem dX0_advise_153 : decode cX0_advise 153 = .ok (.ireturn, 1) := by decide +kernel
set_option maxRecDepth 20000 in
theorem ggX0_mean_X0_countOf : GoodIn wsX0_mean wsX0_countOf := goodIn_r _ [5, 6, 7, 8, 9, 10, 4, 11, 12, 13, 14, 15, 16, 17, 18, 19, 20, 21, 22, 23, 24, 25, 26, 27, 28, 29, 30, 31, 32, 33, 34, 35, 36, 37, 38, 39, 40, 41, 42, 43, 44, 45, 46, 47, 48, 49, 50, 51, 52, 53, 54, 55, 56, 57, 58, 59, 60, 61, 62, 63, 64, 65, 66, 67, 68, 69, 70, 71, 72, 73, 74, 75, 76, 77, 78, 79, 80, 81, 82, 83, 84, 85, 86, 87, 88, 89, 90, 91, 92, 93, 94] (by decide +kernel) (by decide +kernel)
set_option maxRecDepth 20000 in
theorem gX0_mean_X0_countOf : GoodIn wsX0_mean (wsV RX0 115 RX0 yX0_countOf wsX0_countOf) := goodIn_app (goodIn_of _ (by decide +kernel)) ggX0_mean_X0_countOf
theorem dX0_mean_0 : decode cX0_mean 0 = .ok (.aload_n 0, 1) := by decide +kernel
theorem dX0_mean_1 : decode cX0_mean 1 = .ok (.iconst 1, 1) := by decide +kernel
theorem dX0_mean_2 : decode cX0_mean 2 = .ok (.invokevirtual 115, 3) := by decide +kernel
theorem dX0_mean_5 : decode cX0_mean 5 = .ok (.istore_n 1, 1) := by decide +kernel
theorem dX0_mean_6 : decode cX0_mean 6 = .ok (.iload_n 1, 1) := by decide +kernel
theorem dX0_mean_7 : decode cX0_mean 7 = .ok (.ifCond .ne 7, 3) := by decide +kernel
theorem dX0_mean_10 : decode cX0_mean 10 = .ok (.dconst 0, 1) := by decide +kernel
theorem dX0_mean_11 : decode cX0_mean 11 = .ok (.goto 12, 3) := by decide +kernel
theorem dX0_mean_14 : decode cX0_mean 14 = .ok (.aload_n 0, 1) := by decide +kernel
theorem dX0_mean_15 : decode cX0_mean 15 = .ok (.iconst 5, 1) := by decide +kernel
theorem dX0_mean_16 : decode cX0_mean 16 = .ok (.invokevirtual 115, 3) := by decide +kernel
theorem dX0_mean_19 : decode cX0_mean 19 = .ok (.i2d, 1) := by decide +kernel
theorem dX0_mean_20 : decode cX0_mean 20 = .ok (.iload_n 1, 1) := by decide +kernel
theorem dX0_mean_21 : decode cX0_mean 21 = .ok (.i2d, 1) := by decide +kernel
theorem dX0_mean_22 : decode cX0_mean 22 = .ok (.ddiv, 1) := by decide +kernel
theorem dX0_mean_23 : decode cX0_mean 23 = .ok (.dreturn, 1) := by decide +kernel
set_option maxRecDepth 20000 in
theorem ggX0_digest_X0_countOf : GoodIn wsX0_digest wsX0_countOf := goodIn_r _ [9, 10, 4, 11, 12, 13, 8, 14, 15, 16, 17, 18, 19, 20, 21, 22, 23, 24, 25, 26, 27, 28, 29, 30, 31, 32, 33, 34, 35, 36, 37, 38, 39, 40, 41, 42, 43, 44, 45, 46, 47, 48, 49, 50, 51, 52, 53, 54, 55, 56, 57, 58, 59, 60, 61, 62, 63, 64, 65, 66, 67, 68, 69, 70, 71, 72, 73, 74, 75, 76, 77, 78, 79, 80, 81, 82, 83, 84, 85, 86, 87, 88, 89, 90, 3, 113, 114, 115, 116, 117, 118] (by decide +kernel) (by decide +kernel)
set_option maxRecDepth 20000 in
theorem gX0_digest_X0_countOf : GoodIn wsX0_digest (wsV RX0 115 RX0 yX0_countOf wsX0_countOf) := goodIn_app (goodIn_of _ (by decide +kernel)) ggX0_digest_X0_countOf
set_option maxRecDepth 20000 in
theorem ggX0_digest_X0_noteAt : GoodIn wsX0_digest wsX0_noteAt := goodIn_r _ [22, 23, 113, 114, 115, 116, 117, 118] (by decide +kernel) (by decide +kernel)
set_option maxRecDepth 20000 in
theorem gX0_digest_X0_noteAt : GoodIn wsX0_digest (wsV RX0 99 RX0 yX0_noteAt wsX0_noteAt) := goodIn_app (goodIn_of _ (by decide +kernel)) ggX0_digest_X0_noteAt
set_option maxRecDepth 20000 in
theorem ggX0_digest_X0_tellOf : GoodIn wsX0_digest wsX0_tellOf := goodIn_r _ [94, 33, 19, 20, 21, 8, 22, 23, 11, 12, 13, 14, 15, 16, 17, 18, 4, 24, 25, 26, 27, 28, 29, 30, 31, 32, 34, 35, 36, 37, 38, 39, 40, 41, 42, 43, 44, 45, 46, 47, 48, 87, 88, 89, 90, 3, 53, 54, 55, 56, 57, 58, 59, 60, 61, 62, 63, 64, 65, 66, 67, 68, 69, 70, 71, 72, 10, 73, 74, 75, 76, 77, 78, 79, 80, 81, 82, 83, 84, 85, 86, 113, 114, 115, 116, 117, 118] (by decide +kernel) (by decide +kernel)
set_option maxRecDepth 20000 in
theorem gX0_digest_X0_tellOf : GoodIn wsX0_digest (wsV RX0 105 RX0 yX0_tellOf wsX0_tellOf) := goodIn_app (goodIn_of _ (by decide +kernel)) ggX0_digest_X0_tellOf
set_option maxRecDepth 20000 in
theorem ggX0_digest_X0_faultsOf : GoodIn wsX0_digest wsX0_faultsOf := goodIn_r _ [56, 45, 46, 47, 8, 48, 11, 12, 13, 14, 15, 16, 17, 18, 4, 19, 20, 21, 22, 23, 57, 58, 59, 60, 61, 62, 63, 64, 65, 66, 67, 68, 69, 70, 71, 72, 10, 73, 74, 75, 76, 77, 78, 79, 80, 81, 82, 83, 84, 85, 86, 33, 34, 35, 36, 113, 114, 115, 116, 117, 118] (by decide +kernel) (by decide +kernel)
set_option maxRecDepth 20000 in
theorem gX0_digest_X0_faultsOf : GoodIn wsX0_digest (wsV RX0 110 RX0 yX0_faultsOf wsX0_faultsOf) := goodIn_app (goodIn_of _ (by decide +kernel)) ggX0_digest_X0_faultsOf
set_option maxRecDepth 20000 in
theorem ggX0_digest_X0_listWays : GoodIn wsX0_digest wsX0_listWays := goodIn_r _ [98, 99, 100, 101, 102, 43, 103, 104, 105, 106, 8, 107, 32, 33, 19, 20, 21, 22, 23, 34, 35, 36, 108, 109, 110, 111, 112, 28, 29, 30, 31, 113, 114, 115, 116, 117, 118] (by decide +kernel) (by decide +kernel)
set_option maxRecDepth 20000 in
theorem gX0_digest_X0_listWays : GoodIn wsX0_digest (wsV RX0 129 RX0 yX0_listWays wsX0_listWays) := goodIn_app (goodIn_of _ (by decide +kernel)) ggX0_digest_X0_listWays
theorem dX0_digest_0 : decode cX0_digest 0 = .ok (.ldc2_w 135, 3) := by decide +kernel
theorem dX0_digest_3 : decode cX0_digest 3 = .ok (.lstore_n 1, 1) := by decide +kernel
theorem dX0_digest_4 : decode cX0_digest 4 = .ok (.iconst 0, 1) := by decide +kernel
theorem dX0_digest_5 : decode cX0_digest 5 = .ok (.istore_n 3, 1) := by decide +kernel
theorem dX0_digest_6 : decode cX0_digest 6 = .ok (.iload_n 3, 1) := by decide +kernel
theorem dX0_digest_7 : decode cX0_digest 7 = .ok (.bipush 7, 2) := by decide +kernel
theorem dX0_digest_9 : decode cX0_digest 9 = .ok (.if_icmp .ge 22, 3) := by decide +kernel
theorem dX0_digest_12 : decode cX0_digest 12 = .ok (.lload_n 1, 1) := by decide +kernel
theorem dX0_digest_13 : decode cX0_digest 13 = .ok (.ldc2_w 137, 3) := by decide +kernel
theorem dX0_digest_16 : decode cX0_digest 16 = .ok (.lmul, 1) := by decide +kernel
theorem dX0_digest_17 : decode cX0_digest 17 = .ok (.aload_n 0, 1) := by decide +kernel
theorem dX0_digest_18 : decode cX0_digest 18 = .ok (.iload_n 3, 1) := by decide +kernel
theorem dX0_digest_19 : decode cX0_digest 19 = .ok (.invokevirtual 115, 3) := by decide +kernel
theorem dX0_digest_22 : decode cX0_digest 22 = .ok (.i2l, 1) := by decide +kernel
theorem dX0_digest_23 : decode cX0_digest 23 = .ok (.ladd, 1) := by decide +kernel
theorem dX0_digest_24 : decode cX0_digest 24 = .ok (.lstore_n 1, 1) := by decide +kernel
theorem dX0_digest_25 : decode cX0_digest 25 = .ok (.iinc 3 1, 3) := by decide +kernel
theorem dX0_digest_28 : decode cX0_digest 28 = .ok (.goto (-22), 3) := by decide +kernel
theorem dX0_digest_31 : decode cX0_digest 31 = .ok (.iconst 0, 1) := by decide +kernel
theorem dX0_digest_32 : decode cX0_digest 32 = .ok (.istore_n 3, 1) := by decide +kernel
theorem dX0_digest_33 : decode cX0_digest 33 = .ok (.iload_n 3, 1) := by decide +kernel
theorem dX0_digest_34 : decode cX0_digest 34 = .ok (.bipush 8, 2) := by decide +kernel
theorem dX0_digest_36 : decode cX0_digest 36 = .ok (.if_icmp .ge 23, 3) := by decide +kernel
theorem dX0_digest_39 : decode cX0_digest 39 = .ok (.lload_n 1, 1) := by decide +kernel
theorem dX0_digest_40 : decode cX0_digest 40 = .ok (.ldc2_w 137, 3) := by decide +kernel
theorem dX0_digest_43 : decode cX0_digest 43 = .ok (.lmul, 1) := by decide +kernel
theorem dX0_digest_44 : decode cX0_digest 44 = .ok (.aload_n 0, 1) := by decide +kernel
theorem dX0_digest_45 : decode cX0_digest 45 = .ok (.getfield 24, 3) := by decide +kernel
theorem dX0_digest_48 : decode cX0_digest 48 = .ok (.iload_n 3, 1) := by decide +kernel
theorem dX0_digest_49 : decode cX0_digest 49 = .ok (.iaload, 1) := by decide +kernel
theorem dX0_digest_50 : decode cX0_digest 50 = .ok (.i2l, 1) := by decide +kernel
theorem dX0_digest_51 : decode cX0_digest 51 = .ok (.ladd, 1) := by decide +kernel
theorem dX0_digest_52 : decode cX0_digest 52 = .ok (.lstore_n 1, 1) := by decide +kernel
theorem dX0_digest_53 : decode cX0_digest 53 = .ok (.iinc 3 1, 3) := by decide +kernel
theorem dX0_digest_56 : decode cX0_digest 56 = .ok (.goto (-23), 3) := by decide +kernel
theorem dX0_digest_59 : decode cX0_digest 59 = .ok (.iconst 0, 1) := by decide +kernel
theorem dX0_digest_60 : decode cX0_digest 60 = .ok (.istore_n 3, 1) := by decide +kernel
theorem dX0_digest_61 : decode cX0_digest 61 = .ok (.iload_n 3, 1) := by decide +kernel
theorem dX0_digest_62 : decode cX0_digest 62 = .ok (.aload_n 0, 1) := by decide +kernel
theorem dX0_digest_63 : decode cX0_digest 63 = .ok (.getfield 7, 3) := by decide +kernel
theorem dX0_digest_66 : decode cX0_digest 66 = .ok (.if_icmp .ge 114, 3) := by decide +kernel
theorem dX0_digest_69 : decode cX0_digest 69 = .ok (.iconst 0, 1) := by decide +kernel
theorem dX0_digest_70 : decode cX0_digest 70 = .ok (.istore 4, 2) := by decide +kernel
theorem dX0_digest_72 : decode cX0_digest 72 = .ok (.iload 4, 2) := by decide +kernel
theorem dX0_digest_74 : decode cX0_digest 74 = .ok (.iconst 4, 1) := by decide +kernel
theorem dX0_digest_75 : decode cX0_digest 75 = .ok (.if_icmp .ge 24, 3) := by decide +kernel
theorem dX0_digest_78 : decode cX0_digest 78 = .ok (.lload_n 1, 1) := by decide +kernel
theorem dX0_digest_79 : decode cX0_digest 79 = .ok (.ldc2_w 137, 3) := by decide +kernel
theorem dX0_digest_82 : decode cX0_digest 82 = .ok (.lmul, 1) := by decide +kernel
theorem dX0_digest_83 : decode cX0_digest 83 = .ok (.aload_n 0, 1) := by decide +kernel
theorem dX0_digest_84 : decode cX0_digest 84 = .ok (.iload_n 3, 1) := by decide +kernel
theorem dX0_digest_85 : decode cX0_digest 85 = .ok (.iload 4, 2) := by decide +kernel
theorem dX0_digest_87 : decode cX0_digest 87 = .ok (.invokevirtual 99, 3) := by decide +kernel
theorem dX0_digest_90 : decode cX0_digest 90 = .ok (.i2l, 1) := by decide +kernel
theorem dX0_digest_91 : decode cX0_digest 91 = .ok (.ladd, 1) := by decide +kernel
theorem dX0_digest_92 : decode cX0_digest 92 = .ok (.lstore_n 1, 1) := by decide +kernel
theorem dX0_digest_93 : decode cX0_digest 93 = .ok (.iinc 4 1, 3) := by decide +kernel
theorem dX0_digest_96 : decode cX0_digest 96 = .ok (.goto (-24), 3) := by decide +kernel
theorem dX0_digest_99 : decode cX0_digest 99 = .ok (.iconst 0, 1) := by decide +kernel
theorem dX0_digest_100 : decode cX0_digest 100 = .ok (.istore 4, 2) := by decide +kernel
theorem dX0_digest_102 : decode cX0_digest 102 = .ok (.iload 4, 2) := by decide +kernel
theorem dX0_digest_104 : decode cX0_digest 104 = .ok (.bipush 6, 2) := by decide +kernel
theorem dX0_digest_106 : decode cX0_digest 106 = .ok (.if_icmp .ge 24, 3) := by decide +kernel
theorem dX0_digest_109 : decode cX0_digest 109 = .ok (.lload_n 1, 1) := by decide +kernel
theorem dX0_digest_110 : decode cX0_digest 110 = .ok (.ldc2_w 137, 3) := by decide +kernel
theorem dX0_digest_113 : decode cX0_digest 113 = .ok (.lmul, 1) := by decide +kernel
theorem dX0_digest_114 : decode cX0_digest 114 = .ok (.aload_n 0, 1) := by decide +kernel
theorem dX0_digest_115 : decode cX0_digest 115 = .ok (.iload_n 3, 1) := by decide +kernel
theorem dX0_digest_116 : decode cX0_digest 116 = .ok (.iload 4, 2) := by decide +kernel
theorem dX0_digest_118 : decode cX0_digest 118 = .ok (.invokevirtual 105, 3) := by decide +kernel
theorem dX0_digest_121 : decode cX0_digest 121 = .ok (.i2l, 1) := by decide +kernel
theorem dX0_digest_122 : decode cX0_digest 122 = .ok (.ladd, 1) := by decide +kernel
theorem dX0_digest_123 : decode cX0_digest 123 = .ok (.lstore_n 1, 1) := by decide +kernel
theorem dX0_digest_124 : decode cX0_digest 124 = .ok (.iinc 4 1, 3) := by decide +kernel
theorem dX0_digest_127 : decode cX0_digest 127 = .ok (.goto (-25), 3) := by decide +kernel
theorem dX0_digest_130 : decode cX0_digest 130 = .ok (.iconst 0, 1) := by decide +kernel
theorem dX0_digest_131 : decode cX0_digest 131 = .ok (.istore 4, 2) := by decide +kernel
theorem dX0_digest_133 : decode cX0_digest 133 = .ok (.iload 4, 2) := by decide +kernel
theorem dX0_digest_135 : decode cX0_digest 135 = .ok (.bipush 8, 2) := by decide +kernel
theorem dX0_digest_137 : decode cX0_digest 137 = .ok (.if_icmp .ge 24, 3) := by decide +kernel
theorem dX0_digest_140 : decode cX0_digest 140 = .ok (.lload_n 1, 1) := by decide +kernel
theorem dX0_digest_141 : decode cX0_digest 141 = .ok (.ldc2_w 137, 3) := by decide +kernel
theorem dX0_digest_144 : decode cX0_digest 144 = .ok (.lmul, 1) := by decide +kernel
theorem dX0_digest_145 : decode cX0_digest 145 = .ok (.aload_n 0, 1) := by decide +kernel
theorem dX0_digest_146 : decode cX0_digest 146 = .ok (.iload_n 3, 1) := by decide +kernel
theorem dX0_digest_147 : decode cX0_digest 147 = .ok (.iload 4, 2) := by decide +kernel
theorem dX0_digest_149 : decode cX0_digest 149 = .ok (.invokevirtual 110, 3) := by decide +kernel
theorem dX0_digest_152 : decode cX0_digest 152 = .ok (.i2l, 1) := by decide +kernel
theorem dX0_digest_153 : decode cX0_digest 153 = .ok (.ladd, 1) := by decide +kernel
theorem dX0_digest_154 : decode cX0_digest 154 = .ok (.lstore_n 1, 1) := by decide +kernel
theorem dX0_digest_155 : decode cX0_digest 155 = .ok (.iinc 4 1, 3) := by decide +kernel
theorem dX0_digest_158 : decode cX0_digest 158 = .ok (.goto (-25), 3) := by decide +kernel
theorem dX0_digest_161 : decode cX0_digest 161 = .ok (.lload_n 1, 1) := by decide +kernel
theorem dX0_digest_162 : decode cX0_digest 162 = .ok (.ldc2_w 137, 3) := by decide +kernel
theorem dX0_digest_165 : decode cX0_digest 165 = .ok (.lmul, 1) := by decide +kernel
theorem dX0_digest_166 : decode cX0_digest 166 = .ok (.aload_n 0, 1) := by decide +kernel
theorem dX0_digest_167 : decode cX0_digest 167 = .ok (.iload_n 3, 1) := by decide +kernel
theorem dX0_digest_168 : decode cX0_digest 168 = .ok (.invokevirtual 129, 3) := by decide +kernel
theorem dX0_digest_171 : decode cX0_digest 171 = .ok (.i2l, 1) := by decide +kernel
theorem dX0_digest_172 : decode cX0_digest 172 = .ok (.ladd, 1) := by decide +kernel
theorem dX0_digest_173 : decode cX0_digest 173 = .ok (.lstore_n 1, 1) := by decide +kernel
theorem dX0_digest_174 : decode cX0_digest 174 = .ok (.iinc 3 1, 3) := by decide +kernel
theorem dX0_digest_177 : decode cX0_digest 177 = .ok (.goto (-116), 3) := by decide +kernel
theorem dX0_digest_180 : decode cX0_digest 180 = .ok (.lload_n 1, 1) := by decide +kernel
theorem dX0_digest_181 : decode cX0_digest 181 = .ok (.lreturn, 1) := by decide +kernel
theorem dX0_isChord_0 : decode cX0_isChord 0 = .ok (.iload_n 1, 1) := by decide +kernel
theorem dX0_isChord_1 : decode cX0_isChord 1 = .ok (.ifCond .lt 15, 3) := by decide +kernel
theorem dX0_isChord_4 : decode cX0_isChord 4 = .ok (.iload_n 1, 1) := by decide +kernel
theorem dX0_isChord_5 : decode cX0_isChord 5 = .ok (.aload_n 0, 1) := by decide +kernel
theorem dX0_isChord_6 : decode cX0_isChord 6 = .ok (.getfield 7, 3) := by decide +kernel
theorem dX0_isChord_9 : decode cX0_isChord 9 = .ok (.if_icmp .ge 7, 3) := by decide +kernel
theorem dX0_isChord_12 : decode cX0_isChord 12 = .ok (.iconst 1, 1) := by decide +kernel
theorem dX0_isChord_13 : decode cX0_isChord 13 = .ok (.goto 4, 3) := by decide +kernel
theorem dX0_isChord_16 : decode cX0_isChord 16 = .ok (.iconst 0, 1) := by decide +kernel
theorem dX0_isChord_17 : decode cX0_isChord 17 = .ok (.ireturn, 1) := by decide +kernel
theorem dX0_isUpperVoice_0 : decode cX0_isUpperVoice 0 = .ok (.iload_n 0, 1) := by decide +kernel
theorem dX0_isUpperVoice_1 : decode cX0_isUpperVoice 1 = .ok (.iconst 1, 1) := by decide +kernel
theorem dX0_isUpperVoice_2 : decode cX0_isUpperVoice 2 = .ok (.if_icmp .lt 12, 3) := by decide +kernel
theorem dX0_isUpperVoice_5 : decode cX0_isUpperVoice 5 = .ok (.iload_n 0, 1) := by decide +kernel
theorem dX0_isUpperVoice_6 : decode cX0_isUpperVoice 6 = .ok (.iconst 3, 1) := by decide +kernel
theorem dX0_isUpperVoice_7 : decode cX0_isUpperVoice 7 = .ok (.if_icmp .gt 7, 3) := by decide +kernel
theorem dX0_isUpperVoice_10 : decode cX0_isUpperVoice 10 = .ok (.iconst 1, 1) := by decide +kernel
theorem dX0_isUpperVoice_11 : decode cX0_isUpperVoice 11 = .ok (.goto 4, 3) := by decide +kernel
theorem dX0_isUpperVoice_14 : decode cX0_isUpperVoice 14 = .ok (.iconst 0, 1) := by decide +kernel
theorem dX0_isUpperVoice_15 : decode cX0_isUpperVoice 15 = .ok (.ireturn, 1) := by decide +kernel
theorem dX0_isFigure_0 : decode cX0_isFigure 0 = .ok (.iload_n 0, 1) := by decide +kernel
theorem dX0_isFigure_1 : decode cX0_isFigure 1 = .ok (.ifCond .lt 15, 3) := by decide +kernel
theorem dX0_isFigure_4 : decode cX0_isFigure 4 = .ok (.iload_n 0, 1) := by decide +kernel
theorem dX0_isFigure_5 : decode cX0_isFigure 5 = .ok (.getstatic 132, 3) := by decide +kernel
theorem dX0_isFigure_8 : decode cX0_isFigure 8 = .ok (.arraylength, 1) := by decide +kernel
theorem dX0_isFigure_9 : decode cX0_isFigure 9 = .ok (.if_icmp .ge 7, 3) := by decide +kernel
theorem dX0_isFigure_12 : decode cX0_isFigure 12 = .ok (.iconst 1, 1) := by decide +kernel
theorem dX0_isFigure_13 : decode cX0_isFigure 13 = .ok (.goto 4, 3) := by decide +kernel
theorem dX0_isFigure_16 : decode cX0_isFigure 16 = .ok (.iconst 0, 1) := by decide +kernel
theorem dX0_isFigure_17 : decode cX0_isFigure 17 = .ok (.ireturn, 1) := by decide +kernel
theorem dX0_isFault_0 : decode cX0_isFault 0 = .ok (.iload_n 0, 1) := by decide +kernel
theorem dX0_isFault_1 : decode cX0_isFault 1 = .ok (.ifCond .lt 13, 3) := by decide +kernel
theorem dX0_isFault_4 : decode cX0_isFault 4 = .ok (.iload_n 0, 1) := by decide +kernel
theorem dX0_isFault_5 : decode cX0_isFault 5 = .ok (.bipush 8, 2) := by decide +kernel
theorem dX0_isFault_7 : decode cX0_isFault 7 = .ok (.if_icmp .ge 7, 3) := by decide +kernel
theorem dX0_isFault_10 : decode cX0_isFault 10 = .ok (.iconst 1, 1) := by decide +kernel
theorem dX0_isFault_11 : decode cX0_isFault 11 = .ok (.goto 4, 3) := by decide +kernel
theorem dX0_isFault_14 : decode cX0_isFault 14 = .ok (.iconst 0, 1) := by decide +kernel
theorem dX0_isFault_15 : decode cX0_isFault 15 = .ok (.ireturn, 1) := by decide +kernel
theorem dX0_isNote_0 : decode cX0_isNote 0 = .ok (.iload_n 0, 1) := by decide +kernel
theorem dX0_isNote_1 : decode cX0_isNote 1 = .ok (.ifCond .lt 13, 3) := by decide +kernel
theorem dX0_isNote_4 : decode cX0_isNote 4 = .ok (.iload_n 0, 1) := by decide +kernel
theorem dX0_isNote_5 : decode cX0_isNote 5 = .ok (.bipush 28, 2) := by decide +kernel
theorem dX0_isNote_7 : decode cX0_isNote 7 = .ok (.if_icmp .ge 7, 3) := by decide +kernel
theorem dX0_isNote_10 : decode cX0_isNote 10 = .ok (.iconst 1, 1) := by decide +kernel
theorem dX0_isNote_11 : decode cX0_isNote 11 = .ok (.goto 4, 3) := by decide +kernel
theorem dX0_isNote_14 : decode cX0_isNote 14 = .ok (.iconst 0, 1) := by decide +kernel
theorem dX0_isNote_15 : decode cX0_isNote 15 = .ok (.ireturn, 1) := by decide +kernel
theorem dX0_isNoteOf_0 : decode cX0_isNoteOf 0 = .ok (.iload_n 1, 1) := by decide +kernel
theorem dX0_isNoteOf_1 : decode cX0_isNoteOf 1 = .ok (.getstatic 139, 3) := by decide +kernel
theorem dX0_isNoteOf_4 : decode cX0_isNoteOf 4 = .ok (.iload_n 0, 1) := by decide +kernel
theorem dX0_isNoteOf_5 : decode cX0_isNoteOf 5 = .ok (.iaload, 1) := by decide +kernel
theorem dX0_isNoteOf_6 : decode cX0_isNoteOf 6 = .ok (.if_icmp .lt 16, 3) := by decide +kernel
theorem dX0_isNoteOf_9 : decode cX0_isNoteOf 9 = .ok (.iload_n 1, 1) := by decide +kernel
theorem dX0_isNoteOf_10 : decode cX0_isNoteOf 10 = .ok (.getstatic 142, 3) := by decide +kernel
theorem dX0_isNoteOf_13 : decode cX0_isNoteOf 13 = .ok (.iload_n 0, 1) := by decide +kernel
theorem dX0_isNoteOf_14 : decode cX0_isNoteOf 14 = .ok (.iaload, 1) := by decide +kernel
theorem dX0_isNoteOf_15 : decode cX0_isNoteOf 15 = .ok (.if_icmp .gt 7, 3) := by decide +kernel
theorem dX0_isNoteOf_18 : decode cX0_isNoteOf 18 = .ok (.iconst 1, 1) := by decide +kernel
theorem dX0_isNoteOf_19 : decode cX0_isNoteOf 19 = .ok (.goto 4, 3) := by decide +kernel
theorem dX0_isNoteOf_22 : decode cX0_isNoteOf 22 = .ok (.iconst 0, 1) := by decide +kernel
theorem dX0_isNoteOf_23 : decode cX0_isNoteOf 23 = .ok (.ireturn, 1) := by decide +kernel
theorem dX0_noteAt_0 : decode cX0_noteAt 0 = .ok (.aload_n 0, 1) := by decide +kernel
theorem dX0_noteAt_1 : decode cX0_noteAt 1 = .ok (.getfield 21, 3) := by decide +kernel
theorem dX0_noteAt_4 : decode cX0_noteAt 4 = .ok (.iload_n 1, 1) := by decide +kernel
theorem dX0_noteAt_5 : decode cX0_noteAt 5 = .ok (.iconst 4, 1) := by decide +kernel
theorem dX0_noteAt_6 : decode cX0_noteAt 6 = .ok (.imul, 1) := by decide +kernel
theorem dX0_noteAt_7 : decode cX0_noteAt 7 = .ok (.iload_n 2, 1) := by decide +kernel
theorem dX0_noteAt_8 : decode cX0_noteAt 8 = .ok (.iadd, 1) := by decide +kernel
theorem dX0_noteAt_9 : decode cX0_noteAt 9 = .ok (.iaload, 1) := by decide +kernel
theorem dX0_noteAt_10 : decode cX0_noteAt 10 = .ok (.ireturn, 1) := by decide +kernel
theorem dX0_exchangeNote_0 : decode cX0_exchangeNote 0 = .ok (.aload_n 0, 1) := by decide +kernel
theorem dX0_exchangeNote_1 : decode cX0_exchangeNote 1 = .ok (.getfield 21, 3) := by decide +kernel
theorem dX0_exchangeNote_4 : decode cX0_exchangeNote 4 = .ok (.iload_n 1, 1) := by decide +kernel
theorem dX0_exchangeNote_5 : decode cX0_exchangeNote 5 = .ok (.iconst 4, 1) := by decide +kernel
theorem dX0_exchangeNote_6 : decode cX0_exchangeNote 6 = .ok (.imul, 1) := by decide +kernel
theorem dX0_exchangeNote_7 : decode cX0_exchangeNote 7 = .ok (.iload_n 2, 1) := by decide +kernel
theorem dX0_exchangeNote_8 : decode cX0_exchangeNote 8 = .ok (.iadd, 1) := by decide +kernel
theorem dX0_exchangeNote_9 : decode cX0_exchangeNote 9 = .ok (.iaload, 1) := by decide +kernel
theorem dX0_exchangeNote_10 : decode cX0_exchangeNote 10 = .ok (.istore 4, 2) := by decide +kernel
theorem dX0_exchangeNote_12 : decode cX0_exchangeNote 12 = .ok (.aload_n 0, 1) := by decide +kernel
theorem dX0_exchangeNote_13 : decode cX0_exchangeNote 13 = .ok (.getfield 21, 3) := by decide +kernel
theorem dX0_exchangeNote_16 : decode cX0_exchangeNote 16 = .ok (.iload_n 1, 1) := by decide +kernel
theorem dX0_exchangeNote_17 : decode cX0_exchangeNote 17 = .ok (.iconst 4, 1) := by decide +kernel
theorem dX0_exchangeNote_18 : decode cX0_exchangeNote 18 = .ok (.imul, 1) := by decide +kernel
theorem dX0_exchangeNote_19 : decode cX0_exchangeNote 19 = .ok (.iload_n 2, 1) := by decide +kernel
theorem dX0_exchangeNote_20 : decode cX0_exchangeNote 20 = .ok (.iadd, 1) := by decide +kernel
theorem dX0_exchangeNote_21 : decode cX0_exchangeNote 21 = .ok (.iload_n 3, 1) := by decide +kernel
theorem dX0_exchangeNote_22 : decode cX0_exchangeNote 22 = .ok (.iastore, 1) := by decide +kernel
theorem dX0_exchangeNote_23 : decode cX0_exchangeNote 23 = .ok (.iload 4, 2) := by decide +kernel
theorem dX0_exchangeNote_25 : decode cX0_exchangeNote 25 = .ok (.ireturn, 1) := by decide +kernel
theorem dX0_putNotes_0 : decode cX0_putNotes 0 = .ok (.aload_n 0, 1) := by decide +kernel
theorem dX0_putNotes_1 : decode cX0_putNotes 1 = .ok (.getfield 21, 3) := by decide +kernel
theorem dX0_putNotes_4 : decode cX0_putNotes 4 = .ok (.iload_n 1, 1) := by decide +kernel
theorem dX0_putNotes_5 : decode cX0_putNotes 5 = .ok (.iconst 4, 1) := by decide +kernel
theorem dX0_putNotes_6 : decode cX0_putNotes 6 = .ok (.imul, 1) := by decide +kernel
theorem dX0_putNotes_7 : decode cX0_putNotes 7 = .ok (.iconst 1, 1) := by decide +kernel
theorem dX0_putNotes_8 : decode cX0_putNotes 8 = .ok (.iadd, 1) := by decide +kernel
theorem dX0_putNotes_9 : decode cX0_putNotes 9 = .ok (.iload_n 2, 1) := by decide +kernel
theorem dX0_putNotes_10 : decode cX0_putNotes 10 = .ok (.iastore, 1) := by decide +kernel
theorem dX0_putNotes_11 : decode cX0_putNotes 11 = .ok (.aload_n 0, 1) := by decide +kernel
theorem dX0_putNotes_12 : decode cX0_putNotes 12 = .ok (.getfield 21, 3) := by decide +kernel
theorem dX0_putNotes_15 : decode cX0_putNotes 15 = .ok (.iload_n 1, 1) := by decide +kernel
theorem dX0_putNotes_16 : decode cX0_putNotes 16 = .ok (.iconst 4, 1) := by decide +kernel
theorem dX0_putNotes_17 : decode cX0_putNotes 17 = .ok (.imul, 1) := by decide +kernel
theorem dX0_putNotes_18 : decode cX0_putNotes 18 = .ok (.iconst 2, 1) := by decide +kernel
theorem dX0_putNotes_19 : decode cX0_putNotes 19 = .ok (.iadd, 1) := by decide +kernel
theorem dX0_putNotes_20 : decode cX0_putNotes 20 = .ok (.iload_n 3, 1) := by decide +kernel
theorem dX0_putNotes_21 : decode cX0_putNotes 21 = .ok (.iastore, 1) := by decide +kernel
theorem dX0_putNotes_22 : decode cX0_putNotes 22 = .ok (.aload_n 0, 1) := by decide +kernel
theorem dX0_putNotes_23 : decode cX0_putNotes 23 = .ok (.getfield 21, 3) := by decide +kernel
theorem dX0_putNotes_26 : decode cX0_putNotes 26 = .ok (.iload_n 1, 1) := by decide +kernel
theorem dX0_putNotes_27 : decode cX0_putNotes 27 = .ok (.iconst 4, 1) := by decide +kernel
theorem dX0_putNotes_28 : decode cX0_putNotes 28 = .ok (.imul, 1) := by decide +kernel
theorem dX0_putNotes_29 : decode cX0_putNotes 29 = .ok (.iconst 3, 1) := by decide +kernel
theorem dX0_putNotes_30 : decode cX0_putNotes 30 = .ok (.iadd, 1) := by decide +kernel
theorem dX0_putNotes_31 : decode cX0_putNotes 31 = .ok (.iload 4, 2) := by decide +kernel
theorem dX0_putNotes_33 : decode cX0_putNotes 33 = .ok (.iastore, 1) := by decide +kernel
theorem dX0_putNotes_34 : decode cX0_putNotes 34 = .ok (.return_, 1) := by decide +kernel
set_option maxRecDepth 20000 in
theorem ggX0_putWay_X0_putNotes : GoodIn wsX0_putWay wsX0_putNotes := goodIn_r _ [5, 6, 7, 8, 9, 10, 11, 12] (by decide +kernel) (by decide +kernel)
set_option maxRecDepth 20000 in
theorem gX0_putWay_X0_putNotes : GoodIn wsX0_putWay (wsV RX0 52 RX0 yX0_putNotes wsX0_putNotes) := goodIn_app (goodIn_of _ (by decide +kernel)) ggX0_putWay_X0_putNotes
theorem dX0_putWay_0 : decode cX0_putWay 0 = .ok (.aload_n 0, 1) := by decide +kernel
theorem dX0_putWay_1 : decode cX0_putWay 1 = .ok (.iload_n 1, 1) := by decide +kernel
theorem dX0_putWay_2 : decode cX0_putWay 2 = .ok (.iload_n 2, 1) := by decide +kernel
theorem dX0_putWay_3 : decode cX0_putWay 3 = .ok (.sipush 784, 3) := by decide +kernel
theorem dX0_putWay_6 : decode cX0_putWay 6 = .ok (.idiv, 1) := by decide +kernel
theorem dX0_putWay_7 : decode cX0_putWay 7 = .ok (.iload_n 2, 1) := by decide +kernel
theorem dX0_putWay_8 : decode cX0_putWay 8 = .ok (.bipush 28, 2) := by decide +kernel
theorem dX0_putWay_10 : decode cX0_putWay 10 = .ok (.idiv, 1) := by decide +kernel
theorem dX0_putWay_11 : decode cX0_putWay 11 = .ok (.bipush 28, 2) := by decide +kernel
theorem dX0_putWay_13 : decode cX0_putWay 13 = .ok (.irem, 1) := by decide +kernel
theorem dX0_putWay_14 : decode cX0_putWay 14 = .ok (.iload_n 2, 1) := by decide +kernel
theorem dX0_putWay_15 : decode cX0_putWay 15 = .ok (.bipush 28, 2) := by decide +kernel
theorem dX0_putWay_17 : decode cX0_putWay 17 = .ok (.irem, 1) := by decide +kernel
theorem dX0_putWay_18 : decode cX0_putWay 18 = .ok (.invokevirtual 52, 3) := by decide +kernel
theorem dX0_putWay_21 : decode cX0_putWay 21 = .ok (.return_, 1) := by decide +kernel
theorem dX0_pitchOf_0 : decode cX0_pitchOf 0 = .ok (.iload_n 1, 1) := by decide +kernel
theorem dX0_pitchOf_1 : decode cX0_pitchOf 1 = .ok (.bipush 7, 2) := by decide +kernel
theorem dX0_pitchOf_3 : decode cX0_pitchOf 3 = .ok (.irem, 1) := by decide +kernel
theorem dX0_pitchOf_4 : decode cX0_pitchOf 4 = .ok (.istore_n 2, 1) := by decide +kernel
theorem dX0_pitchOf_5 : decode cX0_pitchOf 5 = .ok (.bipush 12, 2) := by decide +kernel
theorem dX0_pitchOf_7 : decode cX0_pitchOf 7 = .ok (.iload_n 1, 1) := by decide +kernel
theorem dX0_pitchOf_8 : decode cX0_pitchOf 8 = .ok (.bipush 7, 2) := by decide +kernel
theorem dX0_pitchOf_10 : decode cX0_pitchOf 10 = .ok (.idiv, 1) := by decide +kernel
theorem dX0_pitchOf_11 : decode cX0_pitchOf 11 = .ok (.imul, 1) := by decide +kernel
theorem dX0_pitchOf_12 : decode cX0_pitchOf 12 = .ok (.aload_n 0, 1) := by decide +kernel
theorem dX0_pitchOf_13 : decode cX0_pitchOf 13 = .ok (.getfield 13, 3) := by decide +kernel
theorem dX0_pitchOf_16 : decode cX0_pitchOf 16 = .ok (.ifCond .eq 11, 3) := by decide +kernel
theorem dX0_pitchOf_19 : decode cX0_pitchOf 19 = .ok (.getstatic 145, 3) := by decide +kernel
theorem dX0_pitchOf_22 : decode cX0_pitchOf 22 = .ok (.iload_n 2, 1) := by decide +kernel
theorem dX0_pitchOf_23 : decode cX0_pitchOf 23 = .ok (.iaload, 1) := by decide +kernel
theorem dX0_pitchOf_24 : decode cX0_pitchOf 24 = .ok (.goto 8, 3) := by decide +kernel
theorem dX0_pitchOf_27 : decode cX0_pitchOf 27 = .ok (.getstatic 148, 3) := by decide +kernel
theorem dX0_pitchOf_30 : decode cX0_pitchOf 30 = .ok (.iload_n 2, 1) := by decide +kernel
theorem dX0_pitchOf_31 : decode cX0_pitchOf 31 = .ok (.iaload, 1) := by decide +kernel
theorem dX0_pitchOf_32 : decode cX0_pitchOf 32 = .ok (.iadd, 1) := by decide +kernel
theorem dX0_pitchOf_33 : decode cX0_pitchOf 33 = .ok (.ireturn, 1) := by decide +kernel
theorem dX0_stepAbove_0 : decode cX0_stepAbove 0 = .ok (.iload_n 1, 1) := by decide +kernel
theorem dX0_stepAbove_1 : decode cX0_stepAbove 1 = .ok (.iload_n 0, 1) := by decide +kernel
theorem dX0_stepAbove_2 : decode cX0_stepAbove 2 = .ok (.isub, 1) := by decide +kernel
theorem dX0_stepAbove_3 : decode cX0_stepAbove 3 = .ok (.bipush 7, 2) := by decide +kernel
theorem dX0_stepAbove_5 : decode cX0_stepAbove 5 = .ok (.irem, 1) := by decide +kernel
theorem dX0_stepAbove_6 : decode cX0_stepAbove 6 = .ok (.istore_n 2, 1) := by decide +kernel
theorem dX0_stepAbove_7 : decode cX0_stepAbove 7 = .ok (.iload_n 2, 1) := by decide +kernel
theorem dX0_stepAbove_8 : decode cX0_stepAbove 8 = .ok (.ifCond .ge 10, 3) := by decide +kernel
theorem dX0_stepAbove_11 : decode cX0_stepAbove 11 = .ok (.iload_n 2, 1) := by decide +kernel
theorem dX0_stepAbove_12 : decode cX0_stepAbove 12 = .ok (.bipush 7, 2) := by decide +kernel
theorem dX0_stepAbove_14 : decode cX0_stepAbove 14 = .ok (.iadd, 1) := by decide +kernel
theorem dX0_stepAbove_15 : decode cX0_stepAbove 15 = .ok (.goto 4, 3) := by decide +kernel
theorem dX0_stepAbove_18 : decode cX0_stepAbove 18 = .ok (.iload_n 2, 1) := by decide +kernel
theorem dX0_stepAbove_19 : decode cX0_stepAbove 19 = .ok (.ireturn, 1) := by decide +kernel
set_option maxRecDepth 20000 in
theorem ggX0_moves_X0_noteAt : GoodIn wsX0_moves wsX0_noteAt := goodIn_r _ [5, 6, 7, 8, 9, 10, 11, 12] (by decide +kernel) (by decide +kernel)
set_option maxRecDepth 20000 in
theorem gX0_moves_X0_noteAt : GoodIn wsX0_moves (wsV RX0 99 RX0 yX0_noteAt wsX0_noteAt) := goodIn_app (goodIn_of _ (by decide +kernel)) ggX0_moves_X0_noteAt
theorem dX0_moves_0 : decode cX0_moves 0 = .ok (.aload_n 0, 1) := by decide +kernel
theorem dX0_moves_1 : decode cX0_moves 1 = .ok (.iload_n 1, 1) := by decide +kernel
theorem dX0_moves_2 : decode cX0_moves 2 = .ok (.iload_n 2, 1) := by decide +kernel
theorem dX0_moves_3 : decode cX0_moves 3 = .ok (.invokevirtual 99, 3) := by decide +kernel
theorem dX0_moves_6 : decode cX0_moves 6 = .ok (.aload_n 0, 1) := by decide +kernel
theorem dX0_moves_7 : decode cX0_moves 7 = .ok (.iload_n 1, 1) := by decide +kernel
theorem dX0_moves_8 : decode cX0_moves 8 = .ok (.iconst 1, 1) := by decide +kernel
theorem dX0_moves_9 : decode cX0_moves 9 = .ok (.isub, 1) := by decide +kernel
theorem dX0_moves_10 : decode cX0_moves 10 = .ok (.iload_n 2, 1) := by decide +kernel
theorem dX0_moves_11 : decode cX0_moves 11 = .ok (.invokevirtual 99, 3) := by decide +kernel
theorem dX0_moves_14 : decode cX0_moves 14 = .ok (.if_icmp .eq 7, 3) := by decide +kernel
theorem dX0_moves_17 : decode cX0_moves 17 = .ok (.iconst 1, 1) := by decide +kernel
theorem dX0_moves_18 : decode cX0_moves 18 = .ok (.goto 4, 3) := by decide +kernel
theorem dX0_moves_21 : decode cX0_moves 21 = .ok (.iconst 0, 1) := by decide +kernel
theorem dX0_moves_22 : decode cX0_moves 22 = .ok (.ireturn, 1) := by decide +kernel
set_option maxRecDepth 20000 in
theorem ggX0_belongs_X0_noteAt : GoodIn wsX0_belongs wsX0_noteAt := goodIn_r _ [7, 8, 12, 13, 14, 15, 16, 17] (by decide +kernel) (by decide +kernel)
set_option maxRecDepth 20000 in
theorem gX0_belongs_X0_noteAt : GoodIn wsX0_belongs (wsV RX0 99 RX0 yX0_noteAt wsX0_noteAt) := goodIn_app (goodIn_of _ (by decide +kernel)) ggX0_belongs_X0_noteAt
set_option maxRecDepth 20000 in
theorem ggX0_belongs_X0_stepAbove : GoodIn wsX0_belongs wsX0_stepAbove := goodIn_r _ [11] (by decide +kernel) (by decide +kernel)
set_option maxRecDepth 20000 in
theorem gX0_belongs_X0_stepAbove : GoodIn wsX0_belongs (va_wsS RX0 151 yX0_stepAbove wsX0_stepAbove) := goodIn_app (goodIn_of _ (by decide +kernel)) ggX0_belongs_X0_stepAbove
theorem dX0_belongs_0 : decode cX0_belongs 0 = .ok (.iconst 1, 1) := by decide +kernel
theorem dX0_belongs_1 : decode cX0_belongs 1 = .ok (.aload_n 0, 1) := by decide +kernel
theorem dX0_belongs_2 : decode cX0_belongs 2 = .ok (.iload_n 1, 1) := by decide +kernel
theorem dX0_belongs_3 : decode cX0_belongs 3 = .ok (.iconst 0, 1) := by decide +kernel
theorem dX0_belongs_4 : decode cX0_belongs 4 = .ok (.invokevirtual 99, 3) := by decide +kernel
theorem dX0_belongs_7 : decode cX0_belongs 7 = .ok (.iload_n 2, 1) := by decide +kernel
theorem dX0_belongs_8 : decode cX0_belongs 8 = .ok (.invokestatic 151, 3) := by decide +kernel
theorem dX0_belongs_11 : decode cX0_belongs 11 = .ok (.ishl, 1) := by decide +kernel
theorem dX0_belongs_12 : decode cX0_belongs 12 = .ok (.istore_n 3, 1) := by decide +kernel
theorem dX0_belongs_13 : decode cX0_belongs 13 = .ok (.getstatic 132, 3) := by decide +kernel
theorem dX0_belongs_16 : decode cX0_belongs 16 = .ok (.aload_n 0, 1) := by decide +kernel
theorem dX0_belongs_17 : decode cX0_belongs 17 = .ok (.getfield 17, 3) := by decide +kernel
theorem dX0_belongs_20 : decode cX0_belongs 20 = .ok (.iload_n 1, 1) := by decide +kernel
theorem dX0_belongs_21 : decode cX0_belongs 21 = .ok (.iaload, 1) := by decide +kernel
theorem dX0_belongs_22 : decode cX0_belongs 22 = .ok (.iaload, 1) := by decide +kernel
theorem dX0_belongs_23 : decode cX0_belongs 23 = .ok (.iload_n 3, 1) := by decide +kernel
theorem dX0_belongs_24 : decode cX0_belongs 24 = .ok (.iand, 1) := by decide +kernel
theorem dX0_belongs_25 : decode cX0_belongs 25 = .ok (.ifCond .eq 7, 3) := by decide +kernel
theorem dX0_belongs_28 : decode cX0_belongs 28 = .ok (.iconst 1, 1) := by decide +kernel
theorem dX0_belongs_29 : decode cX0_belongs 29 = .ok (.goto 4, 3) := by decide +kernel
theorem dX0_belongs_32 : decode cX0_belongs 32 = .ok (.iconst 0, 1) := by decide +kernel
theorem dX0_belongs_33 : decode cX0_belongs 33 = .ok (.ireturn, 1) := by decide +kernel
set_option maxRecDepth 20000 in
theorem ggX0_isSet_X0_isChord : GoodIn wsX0_isSet wsX0_isChord := goodIn_r _ [5, 6, 12, 13, 14, 15, 16, 17] (by decide +kernel) (by decide +kernel)
set_option maxRecDepth 20000 in
theorem gX0_isSet_X0_isChord : GoodIn wsX0_isSet (wsV RX0 56 RX0 yX0_isChord wsX0_isChord) := goodIn_app (goodIn_of _ (by decide +kernel)) ggX0_isSet_X0_isChord
set_option maxRecDepth 20000 in
theorem ggX0_isSet_X0_noteAt : GoodIn wsX0_isSet wsX0_noteAt := goodIn_r _ [10, 11, 12, 13, 14, 15, 16, 17] (by decide +kernel) (by decide +kernel)
set_option maxRecDepth 20000 in
theorem gX0_isSet_X0_noteAt : GoodIn wsX0_isSet (wsV RX0 99 RX0 yX0_noteAt wsX0_noteAt) := goodIn_app (goodIn_of _ (by decide +kernel)) ggX0_isSet_X0_noteAt
theorem dX0_isSet_0 : decode cX0_isSet 0 = .ok (.aload_n 0, 1) := by decide +kernel
theorem dX0_isSet_1 : decode cX0_isSet 1 = .ok (.iload_n 1, 1) := by decide +kernel
theorem dX0_isSet_2 : decode cX0_isSet 2 = .ok (.invokevirtual 56, 3) := by decide +kernel
theorem dX0_isSet_5 : decode cX0_isSet 5 = .ok (.ifCond .eq 37, 3) := by decide +kernel
theorem dX0_isSet_8 : decode cX0_isSet 8 = .ok (.aload_n 0, 1) := by decide +kernel
theorem dX0_isSet_9 : decode cX0_isSet 9 = .ok (.iload_n 1, 1) := by decide +kernel
theorem dX0_isSet_10 : decode cX0_isSet 10 = .ok (.iconst 1, 1) := by decide +kernel
theorem dX0_isSet_11 : decode cX0_isSet 11 = .ok (.invokevirtual 99, 3) := by decide +kernel
theorem dX0_isSet_14 : decode cX0_isSet 14 = .ok (.iconst (-1), 1) := by decide +kernel
theorem dX0_isSet_15 : decode cX0_isSet 15 = .ok (.if_icmp .eq 27, 3) := by decide +kernel
theorem dX0_isSet_18 : decode cX0_isSet 18 = .ok (.aload_n 0, 1) := by decide +kernel
theorem dX0_isSet_19 : decode cX0_isSet 19 = .ok (.iload_n 1, 1) := by decide +kernel
theorem dX0_isSet_20 : decode cX0_isSet 20 = .ok (.iconst 2, 1) := by decide +kernel
theorem dX0_isSet_21 : decode cX0_isSet 21 = .ok (.invokevirtual 99, 3) := by decide +kernel
theorem dX0_isSet_24 : decode cX0_isSet 24 = .ok (.iconst (-1), 1) := by decide +kernel
theorem dX0_isSet_25 : decode cX0_isSet 25 = .ok (.if_icmp .eq 17, 3) := by decide +kernel
theorem dX0_isSet_28 : decode cX0_isSet 28 = .ok (.aload_n 0, 1) := by decide +kernel
theorem dX0_isSet_29 : decode cX0_isSet 29 = .ok (.iload_n 1, 1) := by decide +kernel
theorem dX0_isSet_30 : decode cX0_isSet 30 = .ok (.iconst 3, 1) := by decide +kernel
theorem dX0_isSet_31 : decode cX0_isSet 31 = .ok (.invokevirtual 99, 3) := by decide +kernel
theorem dX0_isSet_34 : decode cX0_isSet 34 = .ok (.iconst (-1), 1) := by decide +kernel
theorem dX0_isSet_35 : decode cX0_isSet 35 = .ok (.if_icmp .eq 7, 3) := by decide +kernel
theorem dX0_isSet_38 : decode cX0_isSet 38 = .ok (.iconst 1, 1) := by decide +kernel
theorem dX0_isSet_39 : decode cX0_isSet 39 = .ok (.goto 4, 3) := by decide +kernel
theorem dX0_isSet_42 : decode cX0_isSet 42 = .ok (.iconst 0, 1) := by decide +kernel
theorem dX0_isSet_43 : decode cX0_isSet 43 = .ok (.ireturn, 1) := by decide +kernel
set_option maxRecDepth 20000 in
theorem ggX0_isRight_X0_isSet : GoodIn wsX0_isRight wsX0_isSet := goodIn_r _ [5, 6, 7, 8, 4, 9, 10, 11, 12, 13, 14, 15, 25, 26, 27, 28, 29, 30] (by decide +kernel) (by decide +kernel)
set_option maxRecDepth 20000 in
theorem gX0_isRight_X0_isSet : GoodIn wsX0_isRight (wsV RX0 154 RX0 yX0_isSet wsX0_isSet) := goodIn_app (goodIn_of _ (by decide +kernel)) ggX0_isRight_X0_isSet
set_option maxRecDepth 20000 in
theorem ggX0_isRight_X0_noteAt : GoodIn wsX0_isRight wsX0_noteAt := goodIn_r _ [14, 15, 25, 26, 27, 28, 29, 30] (by decide +kernel) (by decide +kernel)
set_option maxRecDepth 20000 in
theorem gX0_isRight_X0_noteAt : GoodIn wsX0_isRight (wsV RX0 99 RX0 yX0_noteAt wsX0_noteAt) := goodIn_app (goodIn_of _ (by decide +kernel)) ggX0_isRight_X0_noteAt
set_option maxRecDepth 20000 in
theorem ggX0_isRight_X0_isRightWith : GoodIn wsX0_isRight wsX0_isRightWith := goodIn_r _ [19, 20, 21, 11, 12, 13, 4, 14, 15, 22, 23, 24, 25, 26, 27, 28, 29, 30] (by decide +kernel) (by decide +kernel)
set_option maxRecDepth 20000 in
theorem gX0_isRight_X0_isRightWith : GoodIn wsX0_isRight (wsV RX0 157 RX0 yX0_isRightWith wsX0_isRightWith) := goodIn_app (goodIn_of _ (by decide +kernel)) ggX0_isRight_X0_isRightWith
theorem dX0_isRight_0 : decode cX0_isRight 0 = .ok (.aload_n 0, 1) := by decide +kernel
theorem dX0_isRight_1 : decode cX0_isRight 1 = .ok (.iload_n 1, 1) := by decide +kernel
theorem dX0_isRight_2 : decode cX0_isRight 2 = .ok (.invokevirtual 154, 3) := by decide +kernel
theorem dX0_isRight_5 : decode cX0_isRight 5 = .ok (.ifCond .eq 33, 3) := by decide +kernel
theorem dX0_isRight_8 : decode cX0_isRight 8 = .ok (.aload_n 0, 1) := by decide +kernel
theorem dX0_isRight_9 : decode cX0_isRight 9 = .ok (.iload_n 1, 1) := by decide +kernel
theorem dX0_isRight_10 : decode cX0_isRight 10 = .ok (.aload_n 0, 1) := by decide +kernel
theorem dX0_isRight_11 : decode cX0_isRight 11 = .ok (.iload_n 1, 1) := by decide +kernel
theorem dX0_isRight_12 : decode cX0_isRight 12 = .ok (.iconst 1, 1) := by decide +kernel
theorem dX0_isRight_13 : decode cX0_isRight 13 = .ok (.invokevirtual 99, 3) := by decide +kernel
theorem dX0_isRight_16 : decode cX0_isRight 16 = .ok (.aload_n 0, 1) := by decide +kernel
theorem dX0_isRight_17 : decode cX0_isRight 17 = .ok (.iload_n 1, 1) := by decide +kernel
theorem dX0_isRight_18 : decode cX0_isRight 18 = .ok (.iconst 2, 1) := by decide +kernel
theorem dX0_isRight_19 : decode cX0_isRight 19 = .ok (.invokevirtual 99, 3) := by decide +kernel
theorem dX0_isRight_22 : decode cX0_isRight 22 = .ok (.aload_n 0, 1) := by decide +kernel
theorem dX0_isRight_23 : decode cX0_isRight 23 = .ok (.iload_n 1, 1) := by decide +kernel
theorem dX0_isRight_24 : decode cX0_isRight 24 = .ok (.iconst 3, 1) := by decide +kernel
theorem dX0_isRight_25 : decode cX0_isRight 25 = .ok (.invokevirtual 99, 3) := by decide +kernel
theorem dX0_isRight_28 : decode cX0_isRight 28 = .ok (.invokevirtual 157, 3) := by decide +kernel
theorem dX0_isRight_31 : decode cX0_isRight 31 = .ok (.ifCond .eq 7, 3) := by decide +kernel
theorem dX0_isRight_34 : decode cX0_isRight 34 = .ok (.iconst 1, 1) := by decide +kernel
theorem dX0_isRight_35 : decode cX0_isRight 35 = .ok (.goto 4, 3) := by decide +kernel
theorem dX0_isRight_38 : decode cX0_isRight 38 = .ok (.iconst 0, 1) := by decide +kernel
theorem dX0_isRight_39 : decode cX0_isRight 39 = .ok (.ireturn, 1) := by decide +kernel
set_option maxRecDepth 20000 in
theorem ggX0_isRightWith_X0_noteAt : GoodIn wsX0_isRightWith wsX0_noteAt := goodIn_r _ [7, 8, 12, 13, 14, 15, 16, 17] (by decide +kernel) (by decide +kernel)
set_option maxRecDepth 20000 in
theorem gX0_isRightWith_X0_noteAt : GoodIn wsX0_isRightWith (wsV RX0 99 RX0 yX0_noteAt wsX0_noteAt) := goodIn_app (goodIn_of _ (by decide +kernel)) ggX0_isRightWith_X0_noteAt
set_option maxRecDepth 20000 in
theorem ggX0_isRightWith_X0_stepAbove : GoodIn wsX0_isRightWith wsX0_stepAbove := goodIn_r _ [11] (by decide +kernel) (by decide +kernel)
set_option maxRecDepth 20000 in
theorem gX0_isRightWith_X0_stepAbove : GoodIn wsX0_isRightWith (va_wsS RX0 151 yX0_stepAbove wsX0_stepAbove) := goodIn_app (goodIn_of _ (by decide +kernel)) ggX0_isRightWith_X0_stepAbove
theorem dX0_isRightWith_0 : decode cX0_isRightWith 0 = .ok (.aload_n 0, 1) := by decide +kernel
theorem dX0_isRightWith_1 : decode cX0_isRightWith 1 = .ok (.iload_n 1, 1) := by decide +kernel
theorem dX0_isRightWith_2 : decode cX0_isRightWith 2 = .ok (.iconst 0, 1) := by decide +kernel
theorem dX0_isRightWith_3 : decode cX0_isRightWith 3 = .ok (.invokevirtual 99, 3) := by decide +kernel
theorem dX0_isRightWith_6 : decode cX0_isRightWith 6 = .ok (.istore 5, 2) := by decide +kernel
theorem dX0_isRightWith_8 : decode cX0_isRightWith 8 = .ok (.iload_n 2, 1) := by decide +kernel
theorem dX0_isRightWith_9 : decode cX0_isRightWith 9 = .ok (.iload 5, 2) := by decide +kernel
theorem dX0_isRightWith_11 : decode cX0_isRightWith 11 = .ok (.if_icmp .lt 14, 3) := by decide +kernel
theorem dX0_isRightWith_14 : decode cX0_isRightWith 14 = .ok (.iload_n 3, 1) := by decide +kernel
theorem dX0_isRightWith_15 : decode cX0_isRightWith 15 = .ok (.iload_n 2, 1) := by decide +kernel
theorem dX0_isRightWith_16 : decode cX0_isRightWith 16 = .ok (.if_icmp .lt 9, 3) := by decide +kernel
theorem dX0_isRightWith_19 : decode cX0_isRightWith 19 = .ok (.iload 4, 2) := by decide +kernel
theorem dX0_isRightWith_21 : decode cX0_isRightWith 21 = .ok (.iload_n 3, 1) := by decide +kernel
theorem dX0_isRightWith_22 : decode cX0_isRightWith 22 = .ok (.if_icmp .ge 5, 3) := by decide +kernel
theorem dX0_isRightWith_25 : decode cX0_isRightWith 25 = .ok (.iconst 0, 1) := by decide +kernel
theorem dX0_isRightWith_26 : decode cX0_isRightWith 26 = .ok (.ireturn, 1) := by decide +kernel
theorem dX0_isRightWith_27 : decode cX0_isRightWith 27 = .ok (.iconst 1, 1) := by decide +kernel
theorem dX0_isRightWith_28 : decode cX0_isRightWith 28 = .ok (.istore 6, 2) := by decide +kernel
theorem dX0_isRightWith_30 : decode cX0_isRightWith 30 = .ok (.iload 6, 2) := by decide +kernel
theorem dX0_isRightWith_32 : decode cX0_isRightWith 32 = .ok (.iconst 1, 1) := by decide +kernel
theorem dX0_isRightWith_33 : decode cX0_isRightWith 33 = .ok (.iload 5, 2) := by decide +kernel
theorem dX0_isRightWith_35 : decode cX0_isRightWith 35 = .ok (.iload_n 2, 1) := by decide +kernel
theorem dX0_isRightWith_36 : decode cX0_isRightWith 36 = .ok (.invokestatic 151, 3) := by decide +kernel
theorem dX0_isRightWith_39 : decode cX0_isRightWith 39 = .ok (.ishl, 1) := by decide +kernel
theorem dX0_isRightWith_40 : decode cX0_isRightWith 40 = .ok (.ior, 1) := by decide +kernel
theorem dX0_isRightWith_41 : decode cX0_isRightWith 41 = .ok (.istore 6, 2) := by decide +kernel
theorem dX0_isRightWith_43 : decode cX0_isRightWith 43 = .ok (.iload 6, 2) := by decide +kernel
theorem dX0_isRightWith_45 : decode cX0_isRightWith 45 = .ok (.iconst 1, 1) := by decide +kernel
theorem dX0_isRightWith_46 : decode cX0_isRightWith 46 = .ok (.iload 5, 2) := by decide +kernel
theorem dX0_isRightWith_48 : decode cX0_isRightWith 48 = .ok (.iload_n 3, 1) := by decide +kernel
theorem dX0_isRightWith_49 : decode cX0_isRightWith 49 = .ok (.invokestatic 151, 3) := by decide +kernel
theorem dX0_isRightWith_52 : decode cX0_isRightWith 52 = .ok (.ishl, 1) := by decide +kernel
theorem dX0_isRightWith_53 : decode cX0_isRightWith 53 = .ok (.ior, 1) := by decide +kernel
theorem dX0_isRightWith_54 : decode cX0_isRightWith 54 = .ok (.istore 6, 2) := by decide +kernel
theorem dX0_isRightWith_56 : decode cX0_isRightWith 56 = .ok (.iload 6, 2) := by decide +kernel
theorem dX0_isRightWith_58 : decode cX0_isRightWith 58 = .ok (.iconst 1, 1) := by decide +kernel
theorem dX0_isRightWith_59 : decode cX0_isRightWith 59 = .ok (.iload 5, 2) := by decide +kernel
theorem dX0_isRightWith_61 : decode cX0_isRightWith 61 = .ok (.iload 4, 2) := by decide +kernel
theorem dX0_isRightWith_63 : decode cX0_isRightWith 63 = .ok (.invokestatic 151, 3) := by decide +kernel
theorem dX0_isRightWith_66 : decode cX0_isRightWith 66 = .ok (.ishl, 1) := by decide +kernel
theorem dX0_isRightWith_67 : decode cX0_isRightWith 67 = .ok (.ior, 1) := by decide +kernel
theorem dX0_isRightWith_68 : decode cX0_isRightWith 68 = .ok (.istore 6, 2) := by decide +kernel
theorem dX0_isRightWith_70 : decode cX0_isRightWith 70 = .ok (.iload 6, 2) := by decide +kernel
theorem dX0_isRightWith_72 : decode cX0_isRightWith 72 = .ok (.getstatic 132, 3) := by decide +kernel
theorem dX0_isRightWith_75 : decode cX0_isRightWith 75 = .ok (.aload_n 0, 1) := by decide +kernel
theorem dX0_isRightWith_76 : decode cX0_isRightWith 76 = .ok (.getfield 17, 3) := by decide +kernel
theorem dX0_isRightWith_79 : decode cX0_isRightWith 79 = .ok (.iload_n 1, 1) := by decide +kernel
theorem dX0_isRightWith_80 : decode cX0_isRightWith 80 = .ok (.iaload, 1) := by decide +kernel
theorem dX0_isRightWith_81 : decode cX0_isRightWith 81 = .ok (.iaload, 1) := by decide +kernel
theorem dX0_isRightWith_82 : decode cX0_isRightWith 82 = .ok (.if_icmp .ne 7, 3) := by decide +kernel
theorem dX0_isRightWith_85 : decode cX0_isRightWith 85 = .ok (.iconst 1, 1) := by decide +kernel
theorem dX0_isRightWith_86 : decode cX0_isRightWith 86 = .ok (.goto 4, 3) := by decide +kernel
theorem dX0_isRightWith_89 : decode cX0_isRightWith 89 = .ok (.iconst 0, 1) := by decide +kernel
theorem dX0_isRightWith_90 : decode cX0_isRightWith 90 = .ok (.ireturn, 1) := by decide +kernel
set_option maxRecDepth 20000 in
theorem ggX0_follows_X0_isSet : GoodIn wsX0_follows wsX0_isSet := goodIn_r _ [5, 6, 7, 8, 4, 9, 10, 11, 12, 13, 14, 15, 16, 17, 18, 19, 20, 21] (by decide +kernel) (by decide +kernel)
set_option maxRecDepth 20000 in
theorem gX0_follows_X0_isSet : GoodIn wsX0_follows (wsV RX0 154 RX0 yX0_isSet wsX0_isSet) := goodIn_app (goodIn_of _ (by decide +kernel)) ggX0_follows_X0_isSet
theorem dX0_follows_0 : decode cX0_follows 0 = .ok (.aload_n 0, 1) := by decide +kernel
theorem dX0_follows_1 : decode cX0_follows 1 = .ok (.iload_n 1, 1) := by decide +kernel
theorem dX0_follows_2 : decode cX0_follows 2 = .ok (.invokevirtual 154, 3) := by decide +kernel
theorem dX0_follows_5 : decode cX0_follows 5 = .ok (.ifCond .eq 17, 3) := by decide +kernel
theorem dX0_follows_8 : decode cX0_follows 8 = .ok (.aload_n 0, 1) := by decide +kernel
theorem dX0_follows_9 : decode cX0_follows 9 = .ok (.iload_n 1, 1) := by decide +kernel
theorem dX0_follows_10 : decode cX0_follows 10 = .ok (.iconst 1, 1) := by decide +kernel
theorem dX0_follows_11 : decode cX0_follows 11 = .ok (.isub, 1) := by decide +kernel
theorem dX0_follows_12 : decode cX0_follows 12 = .ok (.invokevirtual 154, 3) := by decide +kernel
theorem dX0_follows_15 : decode cX0_follows 15 = .ok (.ifCond .eq 7, 3) := by decide +kernel
theorem dX0_follows_18 : decode cX0_follows 18 = .ok (.iconst 1, 1) := by decide +kernel
theorem dX0_follows_19 : decode cX0_follows 19 = .ok (.goto 4, 3) := by decide +kernel
theorem dX0_follows_22 : decode cX0_follows 22 = .ok (.iconst 0, 1) := by decide +kernel
theorem dX0_follows_23 : decode cX0_follows 23 = .ok (.ireturn, 1) := by decide +kernel
set_option maxRecDepth 20000 in
theorem ggX0_stepsGone_X0_follows : GoodIn wsX0_stepsGone wsX0_follows := goodIn_r _ [9, 10, 11, 12, 8, 13, 14, 15, 16, 17, 18, 19, 20, 21, 22, 23, 24, 25, 26, 27, 28, 29] (by decide +kernel) (by decide +kernel)
set_option maxRecDepth 20000 in
theorem gX0_stepsGone_X0_follows : GoodIn wsX0_stepsGone (wsV RX0 161 RX0 yX0_follows wsX0_follows) := goodIn_app (goodIn_of _ (by decide +kernel)) ggX0_stepsGone_X0_follows
set_option maxRecDepth 20000 in
theorem ggX0_stepsGone_X0_noteAt : GoodIn wsX0_stepsGone wsX0_noteAt := goodIn_r _ [22, 23, 24, 25, 26, 27, 28, 29] (by decide +kernel) (by decide +kernel)
set_option maxRecDepth 20000 in
theorem gX0_stepsGone_X0_noteAt : GoodIn wsX0_stepsGone (wsV RX0 99 RX0 yX0_noteAt wsX0_noteAt) := goodIn_app (goodIn_of _ (by decide +kernel)) ggX0_stepsGone_X0_noteAt
theorem dX0_stepsGone_0 : decode cX0_stepsGone 0 = .ok (.aload_n 0, 1) := by decide +kernel
theorem dX0_stepsGone_1 : decode cX0_stepsGone 1 = .ok (.iload_n 1, 1) := by decide +kernel
theorem dX0_stepsGone_2 : decode cX0_stepsGone 2 = .ok (.invokevirtual 161, 3) := by decide +kernel
theorem dX0_stepsGone_5 : decode cX0_stepsGone 5 = .ok (.ifCond .ne 5, 3) := by decide +kernel
theorem dX0_stepsGone_8 : decode cX0_stepsGone 8 = .ok (.iconst 0, 1) := by decide +kernel
theorem dX0_stepsGone_9 : decode cX0_stepsGone 9 = .ok (.ireturn, 1) := by decide +kernel
theorem dX0_stepsGone_10 : decode cX0_stepsGone 10 = .ok (.iconst 0, 1) := by decide +kernel
theorem dX0_stepsGone_11 : decode cX0_stepsGone 11 = .ok (.istore_n 2, 1) := by decide +kernel
theorem dX0_stepsGone_12 : decode cX0_stepsGone 12 = .ok (.iconst 1, 1) := by decide +kernel
theorem dX0_stepsGone_13 : decode cX0_stepsGone 13 = .ok (.istore_n 3, 1) := by decide +kernel
theorem dX0_stepsGone_14 : decode cX0_stepsGone 14 = .ok (.iload_n 3, 1) := by decide +kernel
theorem dX0_stepsGone_15 : decode cX0_stepsGone 15 = .ok (.iconst 3, 1) := by decide +kernel
theorem dX0_stepsGone_16 : decode cX0_stepsGone 16 = .ok (.if_icmp .gt 30, 3) := by decide +kernel
theorem dX0_stepsGone_19 : decode cX0_stepsGone 19 = .ok (.iload_n 2, 1) := by decide +kernel
theorem dX0_stepsGone_20 : decode cX0_stepsGone 20 = .ok (.aload_n 0, 1) := by decide +kernel
theorem dX0_stepsGone_21 : decode cX0_stepsGone 21 = .ok (.iload_n 1, 1) := by decide +kernel
theorem dX0_stepsGone_22 : decode cX0_stepsGone 22 = .ok (.iload_n 3, 1) := by decide +kernel
theorem dX0_stepsGone_23 : decode cX0_stepsGone 23 = .ok (.invokevirtual 99, 3) := by decide +kernel
theorem dX0_stepsGone_26 : decode cX0_stepsGone 26 = .ok (.aload_n 0, 1) := by decide +kernel
theorem dX0_stepsGone_27 : decode cX0_stepsGone 27 = .ok (.iload_n 1, 1) := by decide +kernel
theorem dX0_stepsGone_28 : decode cX0_stepsGone 28 = .ok (.iconst 1, 1) := by decide +kernel
theorem dX0_stepsGone_29 : decode cX0_stepsGone 29 = .ok (.isub, 1) := by decide +kernel
theorem dX0_stepsGone_30 : decode cX0_stepsGone 30 = .ok (.iload_n 3, 1) := by decide +kernel
theorem dX0_stepsGone_31 : decode cX0_stepsGone 31 = .ok (.invokevirtual 99, 3) := by decide +kernel
theorem dX0_stepsGone_34 : decode cX0_stepsGone 34 = .ok (.isub, 1) := by decide +kernel
theorem dX0_stepsGone_35 : decode cX0_stepsGone 35 = .ok (.invokestatic 164, 3) := by decide +kernel
theorem dX0_stepsGone_38 : decode cX0_stepsGone 38 = .ok (.iadd, 1) := by decide +kernel
theorem dX0_stepsGone_39 : decode cX0_stepsGone 39 = .ok (.istore_n 2, 1) := by decide +kernel
theorem dX0_stepsGone_40 : decode cX0_stepsGone 40 = .ok (.iinc 3 1, 3) := by decide +kernel
theorem dX0_stepsGone_43 : decode cX0_stepsGone 43 = .ok (.goto (-29), 3) := by decide +kernel
theorem dX0_stepsGone_46 : decode cX0_stepsGone 46 = .ok (.iload_n 2, 1) := by decide +kernel
theorem dX0_stepsGone_47 : decode cX0_stepsGone 47 = .ok (.ireturn, 1) := by decide +kernel
set_option maxRecDepth 20000 in
theorem ggX0_costOf_X0_isSet : GoodIn wsX0_costOf wsX0_isSet := goodIn_r _ [6, 7, 8, 9, 5, 10, 11, 12, 13, 14, 15, 16, 77, 78, 79, 80, 81, 82] (by decide +kernel) (by decide +kernel)
set_option maxRecDepth 20000 in
theorem gX0_costOf_X0_isSet : GoodIn wsX0_costOf (wsV RX0 154 RX0 yX0_isSet wsX0_isSet) := goodIn_app (goodIn_of _ (by decide +kernel)) ggX0_costOf_X0_isSet
set_option maxRecDepth 20000 in
theorem ggX0_costOf_X0_isRight : GoodIn wsX0_costOf wsX0_isRight := goodIn_r _ [20, 2, 3, 4, 5, 6, 7, 8, 9, 10, 11, 12, 13, 14, 15, 16, 21, 22, 23, 24, 25, 26, 27, 28, 29, 77, 78, 79, 80, 81, 82] (by decide +kernel) (by decide +kernel)
set_option maxRecDepth 20000 in
theorem gX0_costOf_X0_isRight : GoodIn wsX0_costOf (wsV RX0 169 RX0 yX0_isRight wsX0_isRight) := goodIn_app (goodIn_of _ (by decide +kernel)) ggX0_costOf_X0_isRight
set_option maxRecDepth 20000 in
theorem ggX0_costOf_X0_stepsGone : GoodIn wsX0_costOf wsX0_stepsGone := goodIn_r _ [33, 34, 35, 36, 37, 38, 39, 40, 5, 41, 2, 3, 4, 6, 7, 8, 9, 10, 11, 12, 13, 14, 15, 16, 77, 78, 79, 80, 81, 82] (by decide +kernel) (by decide +kernel)
set_option maxRecDepth 20000 in
theorem gX0_costOf_X0_stepsGone : GoodIn wsX0_costOf (wsV RX0 172 RX0 yX0_stepsGone wsX0_stepsGone) := goodIn_app (goodIn_of _ (by decide +kernel)) ggX0_costOf_X0_stepsGone
set_option maxRecDepth 20000 in
theorem ggX0_costOf_X0_faultsOf : GoodIn wsX0_costOf wsX0_faultsOf := goodIn_r _ [45, 38, 39, 40, 5, 41, 2, 3, 4, 6, 7, 8, 9, 10, 11, 12, 13, 14, 15, 16, 46, 47, 48, 49, 50, 51, 52, 53, 54, 55, 56, 57, 58, 59, 60, 61, 62, 63, 64, 65, 66, 67, 68, 69, 70, 71, 72, 73, 74, 75, 76, 26, 27, 28, 29, 77, 78, 79, 80, 81, 82] (by decide +kernel) (by decide +kernel)
set_option maxRecDepth 20000 in
theorem gX0_costOf_X0_faultsOf : GoodIn wsX0_costOf (wsV RX0 110 RX0 yX0_faultsOf wsX0_faultsOf) := goodIn_app (goodIn_of _ (by decide +kernel)) ggX0_costOf_X0_faultsOf
theorem dX0_costOf_0 : decode cX0_costOf 0 = .ok (.aload_n 0, 1) := by decide +kernel
theorem dX0_costOf_1 : decode cX0_costOf 1 = .ok (.iload_n 1, 1) := by decide +kernel
theorem dX0_costOf_2 : decode cX0_costOf 2 = .ok (.invokevirtual 154, 3) := by decide +kernel
theorem dX0_costOf_5 : decode cX0_costOf 5 = .ok (.ifCond .ne 5, 3) := by decide +kernel
theorem dX0_costOf_8 : decode cX0_costOf 8 = .ok (.iconst 0, 1) := by decide +kernel
theorem dX0_costOf_9 : decode cX0_costOf 9 = .ok (.ireturn, 1) := by decide +kernel
theorem dX0_costOf_10 : decode cX0_costOf 10 = .ok (.aload_n 0, 1) := by decide +kernel
theorem dX0_costOf_11 : decode cX0_costOf 11 = .ok (.iload_n 1, 1) := by decide +kernel
theorem dX0_costOf_12 : decode cX0_costOf 12 = .ok (.invokevirtual 169, 3) := by decide +kernel
theorem dX0_costOf_15 : decode cX0_costOf 15 = .ok (.ifCond .eq 7, 3) := by decide +kernel
theorem dX0_costOf_18 : decode cX0_costOf 18 = .ok (.iconst 0, 1) := by decide +kernel
theorem dX0_costOf_19 : decode cX0_costOf 19 = .ok (.goto 5, 3) := by decide +kernel
theorem dX0_costOf_22 : decode cX0_costOf 22 = .ok (.bipush 30, 2) := by decide +kernel
theorem dX0_costOf_24 : decode cX0_costOf 24 = .ok (.istore_n 2, 1) := by decide +kernel
theorem dX0_costOf_25 : decode cX0_costOf 25 = .ok (.iload_n 2, 1) := by decide +kernel
theorem dX0_costOf_26 : decode cX0_costOf 26 = .ok (.aload_n 0, 1) := by decide +kernel
theorem dX0_costOf_27 : decode cX0_costOf 27 = .ok (.iload_n 1, 1) := by decide +kernel
theorem dX0_costOf_28 : decode cX0_costOf 28 = .ok (.invokevirtual 172, 3) := by decide +kernel
theorem dX0_costOf_31 : decode cX0_costOf 31 = .ok (.iadd, 1) := by decide +kernel
theorem dX0_costOf_32 : decode cX0_costOf 32 = .ok (.istore_n 2, 1) := by decide +kernel
theorem dX0_costOf_33 : decode cX0_costOf 33 = .ok (.iconst 0, 1) := by decide +kernel
theorem dX0_costOf_34 : decode cX0_costOf 34 = .ok (.istore_n 3, 1) := by decide +kernel
theorem dX0_costOf_35 : decode cX0_costOf 35 = .ok (.iload_n 3, 1) := by decide +kernel
theorem dX0_costOf_36 : decode cX0_costOf 36 = .ok (.bipush 8, 2) := by decide +kernel
theorem dX0_costOf_38 : decode cX0_costOf 38 = .ok (.if_icmp .ge 25, 3) := by decide +kernel
theorem dX0_costOf_41 : decode cX0_costOf 41 = .ok (.iload_n 2, 1) := by decide +kernel
theorem dX0_costOf_42 : decode cX0_costOf 42 = .ok (.aload_n 0, 1) := by decide +kernel
theorem dX0_costOf_43 : decode cX0_costOf 43 = .ok (.getfield 24, 3) := by decide +kernel
theorem dX0_costOf_46 : decode cX0_costOf 46 = .ok (.iload_n 3, 1) := by decide +kernel
theorem dX0_costOf_47 : decode cX0_costOf 47 = .ok (.iaload, 1) := by decide +kernel
theorem dX0_costOf_48 : decode cX0_costOf 48 = .ok (.aload_n 0, 1) := by decide +kernel
theorem dX0_costOf_49 : decode cX0_costOf 49 = .ok (.iload_n 1, 1) := by decide +kernel
theorem dX0_costOf_50 : decode cX0_costOf 50 = .ok (.iload_n 3, 1) := by decide +kernel
theorem dX0_costOf_51 : decode cX0_costOf 51 = .ok (.invokevirtual 110, 3) := by decide +kernel
theorem dX0_costOf_54 : decode cX0_costOf 54 = .ok (.imul, 1) := by decide +kernel
theorem dX0_costOf_55 : decode cX0_costOf 55 = .ok (.iadd, 1) := by decide +kernel
theorem dX0_costOf_56 : decode cX0_costOf 56 = .ok (.istore_n 2, 1) := by decide +kernel
theorem dX0_costOf_57 : decode cX0_costOf 57 = .ok (.iinc 3 1, 3) := by decide +kernel
theorem dX0_costOf_60 : decode cX0_costOf 60 = .ok (.goto (-25), 3) := by decide +kernel
theorem dX0_costOf_63 : decode cX0_costOf 63 = .ok (.iload_n 2, 1) := by decide +kernel
theorem dX0_costOf_64 : decode cX0_costOf 64 = .ok (.ireturn, 1) := by decide +kernel
set_option maxRecDepth 20000 in
theorem ggX0_faultsOf_X0_follows : GoodIn wsX0_faultsOf wsX0_follows := goodIn_r _ [5, 6, 7, 8, 4, 9, 10, 11, 12, 13, 14, 15, 16, 17, 18, 19, 55, 56, 57, 58, 59, 60] (by decide +kernel) (by decide +kernel)
set_option maxRecDepth 20000 in
theorem gX0_faultsOf_X0_follows : GoodIn wsX0_faultsOf (wsV RX0 161 RX0 yX0_follows wsX0_follows) := goodIn_app (goodIn_of _ (by decide +kernel)) ggX0_faultsOf_X0_follows
set_option maxRecDepth 20000 in
theorem ggX0_faultsOf_X0_parallels : GoodIn wsX0_faultsOf wsX0_parallels := goodIn_r _ [23, 24, 25, 26, 4, 27, 15, 16, 17, 18, 19, 28, 29, 30, 31, 32, 33, 34, 35, 36, 37, 38, 55, 56, 57, 58, 59, 60] (by decide +kernel) (by decide +kernel)
set_option maxRecDepth 20000 in
theorem gX0_faultsOf_X0_parallels : GoodIn wsX0_faultsOf (wsV RX0 175 RX0 yX0_parallels wsX0_parallels) := goodIn_app (goodIn_of _ (by decide +kernel)) ggX0_faultsOf_X0_parallels
set_option maxRecDepth 20000 in
theorem ggX0_faultsOf_X0_isHidden : GoodIn wsX0_faultsOf wsX0_isHidden := goodIn_r _ [42, 15, 16, 17, 4, 18, 19, 28, 29, 30, 31, 32, 33, 34, 35, 36, 37, 38, 55, 56, 57, 58, 59, 60] (by decide +kernel) (by decide +kernel)
set_option maxRecDepth 20000 in
theorem gX0_faultsOf_X0_isHidden : GoodIn wsX0_faultsOf (wsV RX0 178 RX0 yX0_isHidden wsX0_isHidden) := goodIn_app (goodIn_of _ (by decide +kernel)) ggX0_faultsOf_X0_isHidden
set_option maxRecDepth 20000 in
theorem ggX0_faultsOf_X0_voicesAtFault : GoodIn wsX0_faultsOf wsX0_voicesAtFault := goodIn_r _ [46, 47, 48, 49, 4, 50, 51, 15, 16, 17, 18, 19, 52, 53, 54, 55, 56, 57, 58, 59, 60] (by decide +kernel) (by decide +kernel)
set_option maxRecDepth 20000 in
theorem gX0_faultsOf_X0_voicesAtFault : GoodIn wsX0_faultsOf (wsV RX0 181 RX0 yX0_voicesAtFault wsX0_voicesAtFault) := goodIn_app (goodIn_of _ (by decide +kernel)) ggX0_faultsOf_X0_voicesAtFault
theorem dX0_faultsOf_0 : decode cX0_faultsOf 0 = .ok (.aload_n 0, 1) := by decide +kernel
theorem dX0_faultsOf_1 : decode cX0_faultsOf 1 = .ok (.iload_n 1, 1) := by decide +kernel
theorem dX0_faultsOf_2 : decode cX0_faultsOf 2 = .ok (.invokevirtual 161, 3) := by decide +kernel
theorem dX0_faultsOf_5 : decode cX0_faultsOf 5 = .ok (.ifCond .ne 5, 3) := by decide +kernel
theorem dX0_faultsOf_8 : decode cX0_faultsOf 8 = .ok (.iconst 0, 1) := by decide +kernel
theorem dX0_faultsOf_9 : decode cX0_faultsOf 9 = .ok (.ireturn, 1) := by decide +kernel
theorem dX0_faultsOf_10 : decode cX0_faultsOf 10 = .ok (.iload_n 2, 1) := by decide +kernel
theorem dX0_faultsOf_11 : decode cX0_faultsOf 11 = .ok (.tableswitch 54 0 2 #[25, 33, 40], 25) := by decide +kernel
theorem dX0_faultsOf_36 : decode cX0_faultsOf 36 = .ok (.aload_n 0, 1) := by decide +kernel
theorem dX0_faultsOf_37 : decode cX0_faultsOf 37 = .ok (.iload_n 1, 1) := by decide +kernel
theorem dX0_faultsOf_38 : decode cX0_faultsOf 38 = .ok (.bipush 7, 2) := by decide +kernel
theorem dX0_faultsOf_40 : decode cX0_faultsOf 40 = .ok (.invokevirtual 175, 3) := by decide +kernel
theorem dX0_faultsOf_43 : decode cX0_faultsOf 43 = .ok (.ireturn, 1) := by decide +kernel
theorem dX0_faultsOf_44 : decode cX0_faultsOf 44 = .ok (.aload_n 0, 1) := by decide +kernel
theorem dX0_faultsOf_45 : decode cX0_faultsOf 45 = .ok (.iload_n 1, 1) := by decide +kernel
theorem dX0_faultsOf_46 : decode cX0_faultsOf 46 = .ok (.iconst 0, 1) := by decide +kernel
theorem dX0_faultsOf_47 : decode cX0_faultsOf 47 = .ok (.invokevirtual 175, 3) := by decide +kernel
theorem dX0_faultsOf_50 : decode cX0_faultsOf 50 = .ok (.ireturn, 1) := by decide +kernel
theorem dX0_faultsOf_51 : decode cX0_faultsOf 51 = .ok (.aload_n 0, 1) := by decide +kernel
theorem dX0_faultsOf_52 : decode cX0_faultsOf 52 = .ok (.iload_n 1, 1) := by decide +kernel
theorem dX0_faultsOf_53 : decode cX0_faultsOf 53 = .ok (.invokevirtual 178, 3) := by decide +kernel
theorem dX0_faultsOf_56 : decode cX0_faultsOf 56 = .ok (.ifCond .eq 7, 3) := by decide +kernel
theorem dX0_faultsOf_59 : decode cX0_faultsOf 59 = .ok (.iconst 1, 1) := by decide +kernel
theorem dX0_faultsOf_60 : decode cX0_faultsOf 60 = .ok (.goto 4, 3) := by decide +kernel
theorem dX0_faultsOf_63 : decode cX0_faultsOf 63 = .ok (.iconst 0, 1) := by decide +kernel
theorem dX0_faultsOf_64 : decode cX0_faultsOf 64 = .ok (.ireturn, 1) := by decide +kernel
theorem dX0_faultsOf_65 : decode cX0_faultsOf 65 = .ok (.aload_n 0, 1) := by decide +kernel
theorem dX0_faultsOf_66 : decode cX0_faultsOf 66 = .ok (.iload_n 1, 1) := by decide +kernel
theorem dX0_faultsOf_67 : decode cX0_faultsOf 67 = .ok (.iload_n 2, 1) := by decide +kernel
theorem dX0_faultsOf_68 : decode cX0_faultsOf 68 = .ok (.invokevirtual 181, 3) := by decide +kernel
theorem dX0_faultsOf_71 : decode cX0_faultsOf 71 = .ok (.ireturn, 1) := by decide +kernel
set_option maxRecDepth 20000 in
theorem ggX0_parallels_X0_moves : GoodIn wsX0_parallels wsX0_moves := goodIn_r _ [5, 6, 7, 8, 4, 9, 10, 22, 23, 24, 25, 26, 27] (by decide +kernel) (by decide +kernel)
set_option maxRecDepth 20000 in
theorem gX0_parallels_X0_moves : GoodIn wsX0_parallels (wsV RX0 184 RX0 yX0_moves wsX0_moves) := goodIn_app (goodIn_of _ (by decide +kernel)) ggX0_parallels_X0_moves
set_option maxRecDepth 20000 in
theorem ggX0_parallels_X0_isInterval : GoodIn wsX0_parallels wsX0_isInterval := goodIn_r _ [14, 6, 7, 8, 4, 9, 10, 15, 16, 17, 18, 19, 20, 21, 22, 23, 24, 25, 26, 27] (by decide +kernel) (by decide +kernel)
set_option maxRecDepth 20000 in
theorem gX0_parallels_X0_isInterval : GoodIn wsX0_parallels (wsV RX0 187 RX0 yX0_isInterval wsX0_isInterval) := goodIn_app (goodIn_of _ (by decide +kernel)) ggX0_parallels_X0_isInterval
theorem dX0_parallels_0 : decode cX0_parallels 0 = .ok (.iconst 0, 1) := by decide +kernel
theorem dX0_parallels_1 : decode cX0_parallels 1 = .ok (.istore_n 3, 1) := by decide +kernel
theorem dX0_parallels_2 : decode cX0_parallels 2 = .ok (.iconst 0, 1) := by decide +kernel
theorem dX0_parallels_3 : decode cX0_parallels 3 = .ok (.istore 4, 2) := by decide +kernel
theorem dX0_parallels_5 : decode cX0_parallels 5 = .ok (.iload 4, 2) := by decide +kernel
theorem dX0_parallels_7 : decode cX0_parallels 7 = .ok (.iconst 3, 1) := by decide +kernel
theorem dX0_parallels_8 : decode cX0_parallels 8 = .ok (.if_icmp .ge 78, 3) := by decide +kernel
theorem dX0_parallels_11 : decode cX0_parallels 11 = .ok (.iload 4, 2) := by decide +kernel
theorem dX0_parallels_13 : decode cX0_parallels 13 = .ok (.iconst 1, 1) := by decide +kernel
theorem dX0_parallels_14 : decode cX0_parallels 14 = .ok (.iadd, 1) := by decide +kernel
theorem dX0_parallels_15 : decode cX0_parallels 15 = .ok (.istore 5, 2) := by decide +kernel
theorem dX0_parallels_17 : decode cX0_parallels 17 = .ok (.iload 5, 2) := by decide +kernel
theorem dX0_parallels_19 : decode cX0_parallels 19 = .ok (.iconst 3, 1) := by decide +kernel
theorem dX0_parallels_20 : decode cX0_parallels 20 = .ok (.if_icmp .gt 60, 3) := by decide +kernel
theorem dX0_parallels_23 : decode cX0_parallels 23 = .ok (.aload_n 0, 1) := by decide +kernel
theorem dX0_parallels_24 : decode cX0_parallels 24 = .ok (.iload_n 1, 1) := by decide +kernel
theorem dX0_parallels_25 : decode cX0_parallels 25 = .ok (.iload 4, 2) := by decide +kernel
theorem dX0_parallels_27 : decode cX0_parallels 27 = .ok (.invokevirtual 184, 3) := by decide +kernel
theorem dX0_parallels_30 : decode cX0_parallels 30 = .ok (.ifCond .eq 44, 3) := by decide +kernel
theorem dX0_parallels_33 : decode cX0_parallels 33 = .ok (.aload_n 0, 1) := by decide +kernel
theorem dX0_parallels_34 : decode cX0_parallels 34 = .ok (.iload_n 1, 1) := by decide +kernel
theorem dX0_parallels_35 : decode cX0_parallels 35 = .ok (.iload 5, 2) := by decide +kernel
theorem dX0_parallels_37 : decode cX0_parallels 37 = .ok (.invokevirtual 184, 3) := by decide +kernel
theorem dX0_parallels_40 : decode cX0_parallels 40 = .ok (.ifCond .eq 34, 3) := by decide +kernel
theorem dX0_parallels_43 : decode cX0_parallels 43 = .ok (.aload_n 0, 1) := by decide +kernel
theorem dX0_parallels_44 : decode cX0_parallels 44 = .ok (.iload_n 1, 1) := by decide +kernel
theorem dX0_parallels_45 : decode cX0_parallels 45 = .ok (.iload 4, 2) := by decide +kernel
theorem dX0_parallels_47 : decode cX0_parallels 47 = .ok (.iload 5, 2) := by decide +kernel
theorem dX0_parallels_49 : decode cX0_parallels 49 = .ok (.iload_n 2, 1) := by decide +kernel
theorem dX0_parallels_50 : decode cX0_parallels 50 = .ok (.invokevirtual 187, 3) := by decide +kernel
theorem dX0_parallels_53 : decode cX0_parallels 53 = .ok (.ifCond .eq 21, 3) := by decide +kernel
theorem dX0_parallels_56 : decode cX0_parallels 56 = .ok (.aload_n 0, 1) := by decide +kernel
theorem dX0_parallels_57 : decode cX0_parallels 57 = .ok (.iload_n 1, 1) := by decide +kernel
theorem dX0_parallels_58 : decode cX0_parallels 58 = .ok (.iconst 1, 1) := by decide +kernel
theorem dX0_parallels_59 : decode cX0_parallels 59 = .ok (.isub, 1) := by decide +kernel
theorem dX0_parallels_60 : decode cX0_parallels 60 = .ok (.iload 4, 2) := by decide +kernel
theorem dX0_parallels_62 : decode cX0_parallels 62 = .ok (.iload 5, 2) := by decide +kernel
theorem dX0_parallels_64 : decode cX0_parallels 64 = .ok (.iload_n 2, 1) := by decide +kernel
theorem dX0_parallels_65 : decode cX0_parallels 65 = .ok (.invokevirtual 187, 3) := by decide +kernel
theorem dX0_parallels_68 : decode cX0_parallels 68 = .ok (.ifCond .eq 6, 3) := by decide +kernel
theorem dX0_parallels_71 : decode cX0_parallels 71 = .ok (.iinc 3 1, 3) := by decide +kernel
theorem dX0_parallels_74 : decode cX0_parallels 74 = .ok (.iinc 5 1, 3) := by decide +kernel
theorem dX0_parallels_77 : decode cX0_parallels 77 = .ok (.goto (-60), 3) := by decide +kernel
theorem dX0_parallels_80 : decode cX0_parallels 80 = .ok (.iinc 4 1, 3) := by decide +kernel
theorem dX0_parallels_83 : decode cX0_parallels 83 = .ok (.goto (-78), 3) := by decide +kernel
theorem dX0_parallels_86 : decode cX0_parallels 86 = .ok (.iload_n 3, 1) := by decide +kernel
theorem dX0_parallels_87 : decode cX0_parallels 87 = .ok (.ireturn, 1) := by decide +kernel
set_option maxRecDepth 20000 in
theorem ggX0_isInterval_X0_noteAt : GoodIn wsX0_isInterval wsX0_noteAt := goodIn_r _ [5, 6, 14, 15, 16, 17, 18, 19] (by decide +kernel) (by decide +kernel)
set_option maxRecDepth 20000 in
theorem gX0_isInterval_X0_noteAt : GoodIn wsX0_isInterval (wsV RX0 99 RX0 yX0_noteAt wsX0_noteAt) := goodIn_app (goodIn_of _ (by decide +kernel)) ggX0_isInterval_X0_noteAt
set_option maxRecDepth 20000 in
theorem ggX0_isInterval_X0_pitchOf : GoodIn wsX0_isInterval wsX0_pitchOf := goodIn_r _ [10, 11, 12, 13, 14, 15, 16, 17, 18, 19] (by decide +kernel) (by decide +kernel)
set_option maxRecDepth 20000 in
theorem gX0_isInterval_X0_pitchOf : GoodIn wsX0_isInterval (wsV RX0 123 RX0 yX0_pitchOf wsX0_pitchOf) := goodIn_app (goodIn_of _ (by decide +kernel)) ggX0_isInterval_X0_pitchOf
theorem dX0_isInterval_0 : decode cX0_isInterval 0 = .ok (.aload_n 0, 1) := by decide +kernel
theorem dX0_isInterval_1 : decode cX0_isInterval 1 = .ok (.aload_n 0, 1) := by decide +kernel
theorem dX0_isInterval_2 : decode cX0_isInterval 2 = .ok (.iload_n 1, 1) := by decide +kernel
theorem dX0_isInterval_3 : decode cX0_isInterval 3 = .ok (.iload_n 3, 1) := by decide +kernel
theorem dX0_isInterval_4 : decode cX0_isInterval 4 = .ok (.invokevirtual 99, 3) := by decide +kernel
theorem dX0_isInterval_7 : decode cX0_isInterval 7 = .ok (.invokevirtual 123, 3) := by decide +kernel
theorem dX0_isInterval_10 : decode cX0_isInterval 10 = .ok (.aload_n 0, 1) := by decide +kernel
theorem dX0_isInterval_11 : decode cX0_isInterval 11 = .ok (.aload_n 0, 1) := by decide +kernel
theorem dX0_isInterval_12 : decode cX0_isInterval 12 = .ok (.iload_n 1, 1) := by decide +kernel
theorem dX0_isInterval_13 : decode cX0_isInterval 13 = .ok (.iload_n 2, 1) := by decide +kernel
theorem dX0_isInterval_14 : decode cX0_isInterval 14 = .ok (.invokevirtual 99, 3) := by decide +kernel
theorem dX0_isInterval_17 : decode cX0_isInterval 17 = .ok (.invokevirtual 123, 3) := by decide +kernel
theorem dX0_isInterval_20 : decode cX0_isInterval 20 = .ok (.isub, 1) := by decide +kernel
theorem dX0_isInterval_21 : decode cX0_isInterval 21 = .ok (.istore 5, 2) := by decide +kernel
theorem dX0_isInterval_23 : decode cX0_isInterval 23 = .ok (.iload 5, 2) := by decide +kernel
theorem dX0_isInterval_25 : decode cX0_isInterval 25 = .ok (.bipush 12, 2) := by decide +kernel
theorem dX0_isInterval_27 : decode cX0_isInterval 27 = .ok (.irem, 1) := by decide +kernel
theorem dX0_isInterval_28 : decode cX0_isInterval 28 = .ok (.iload 4, 2) := by decide +kernel
theorem dX0_isInterval_30 : decode cX0_isInterval 30 = .ok (.if_icmp .ne 7, 3) := by decide +kernel
theorem dX0_isInterval_33 : decode cX0_isInterval 33 = .ok (.iconst 1, 1) := by decide +kernel
theorem dX0_isInterval_34 : decode cX0_isInterval 34 = .ok (.goto 4, 3) := by decide +kernel
theorem dX0_isInterval_37 : decode cX0_isInterval 37 = .ok (.iconst 0, 1) := by decide +kernel
theorem dX0_isInterval_38 : decode cX0_isInterval 38 = .ok (.ireturn, 1) := by decide +kernel
set_option maxRecDepth 20000 in
theorem ggX0_isHidden_X0_noteAt : GoodIn wsX0_isHidden wsX0_noteAt := goodIn_r _ [5, 6, 18, 19, 20, 21, 22, 23] (by decide +kernel) (by decide +kernel)
set_option maxRecDepth 20000 in
theorem gX0_isHidden_X0_noteAt : GoodIn wsX0_isHidden (wsV RX0 99 RX0 yX0_noteAt wsX0_noteAt) := goodIn_app (goodIn_of _ (by decide +kernel)) ggX0_isHidden_X0_noteAt
set_option maxRecDepth 20000 in
theorem ggX0_isHidden_X0_isInterval : GoodIn wsX0_isHidden wsX0_isInterval := goodIn_r _ [10, 1, 2, 3, 4, 5, 6, 11, 12, 13, 14, 15, 16, 17, 18, 19, 20, 21, 22, 23] (by decide +kernel) (by decide +kernel)
set_option maxRecDepth 20000 in
theorem gX0_isHidden_X0_isInterval : GoodIn wsX0_isHidden (wsV RX0 187 RX0 yX0_isInterval wsX0_isInterval) := goodIn_app (goodIn_of _ (by decide +kernel)) ggX0_isHidden_X0_isInterval
theorem dX0_isHidden_0 : decode cX0_isHidden 0 = .ok (.aload_n 0, 1) := by decide +kernel
theorem dX0_isHidden_1 : decode cX0_isHidden 1 = .ok (.iload_n 1, 1) := by decide +kernel
theorem dX0_isHidden_2 : decode cX0_isHidden 2 = .ok (.iconst 0, 1) := by decide +kernel
theorem dX0_isHidden_3 : decode cX0_isHidden 3 = .ok (.invokevirtual 99, 3) := by decide +kernel
theorem dX0_isHidden_6 : decode cX0_isHidden 6 = .ok (.aload_n 0, 1) := by decide +kernel
theorem dX0_isHidden_7 : decode cX0_isHidden 7 = .ok (.iload_n 1, 1) := by decide +kernel
theorem dX0_isHidden_8 : decode cX0_isHidden 8 = .ok (.iconst 1, 1) := by decide +kernel
theorem dX0_isHidden_9 : decode cX0_isHidden 9 = .ok (.isub, 1) := by decide +kernel
theorem dX0_isHidden_10 : decode cX0_isHidden 10 = .ok (.iconst 0, 1) := by decide +kernel
theorem dX0_isHidden_11 : decode cX0_isHidden 11 = .ok (.invokevirtual 99, 3) := by decide +kernel
theorem dX0_isHidden_14 : decode cX0_isHidden 14 = .ok (.isub, 1) := by decide +kernel
theorem dX0_isHidden_15 : decode cX0_isHidden 15 = .ok (.istore_n 2, 1) := by decide +kernel
theorem dX0_isHidden_16 : decode cX0_isHidden 16 = .ok (.aload_n 0, 1) := by decide +kernel
theorem dX0_isHidden_17 : decode cX0_isHidden 17 = .ok (.iload_n 1, 1) := by decide +kernel
theorem dX0_isHidden_18 : decode cX0_isHidden 18 = .ok (.iconst 3, 1) := by decide +kernel
theorem dX0_isHidden_19 : decode cX0_isHidden 19 = .ok (.invokevirtual 99, 3) := by decide +kernel
theorem dX0_isHidden_22 : decode cX0_isHidden 22 = .ok (.aload_n 0, 1) := by decide +kernel
theorem dX0_isHidden_23 : decode cX0_isHidden 23 = .ok (.iload_n 1, 1) := by decide +kernel
theorem dX0_isHidden_24 : decode cX0_isHidden 24 = .ok (.iconst 1, 1) := by decide +kernel
theorem dX0_isHidden_25 : decode cX0_isHidden 25 = .ok (.isub, 1) := by decide +kernel
theorem dX0_isHidden_26 : decode cX0_isHidden 26 = .ok (.iconst 3, 1) := by decide +kernel
theorem dX0_isHidden_27 : decode cX0_isHidden 27 = .ok (.invokevirtual 99, 3) := by decide +kernel
theorem dX0_isHidden_30 : decode cX0_isHidden 30 = .ok (.isub, 1) := by decide +kernel
theorem dX0_isHidden_31 : decode cX0_isHidden 31 = .ok (.istore_n 3, 1) := by decide +kernel
theorem dX0_isHidden_32 : decode cX0_isHidden 32 = .ok (.iload_n 2, 1) := by decide +kernel
theorem dX0_isHidden_33 : decode cX0_isHidden 33 = .ok (.ifCond .le 12, 3) := by decide +kernel
theorem dX0_isHidden_36 : decode cX0_isHidden 36 = .ok (.iload_n 3, 1) := by decide +kernel
theorem dX0_isHidden_37 : decode cX0_isHidden 37 = .ok (.iconst 2, 1) := by decide +kernel
theorem dX0_isHidden_38 : decode cX0_isHidden 38 = .ok (.if_icmp .lt 7, 3) := by decide +kernel
theorem dX0_isHidden_41 : decode cX0_isHidden 41 = .ok (.iconst 1, 1) := by decide +kernel
theorem dX0_isHidden_42 : decode cX0_isHidden 42 = .ok (.goto 4, 3) := by decide +kernel
theorem dX0_isHidden_45 : decode cX0_isHidden 45 = .ok (.iconst 0, 1) := by decide +kernel
theorem dX0_isHidden_46 : decode cX0_isHidden 46 = .ok (.istore 4, 2) := by decide +kernel
theorem dX0_isHidden_48 : decode cX0_isHidden 48 = .ok (.iload_n 2, 1) := by decide +kernel
theorem dX0_isHidden_49 : decode cX0_isHidden 49 = .ok (.ifCond .ge 13, 3) := by decide +kernel
theorem dX0_isHidden_52 : decode cX0_isHidden 52 = .ok (.iload_n 3, 1) := by decide +kernel
theorem dX0_isHidden_53 : decode cX0_isHidden 53 = .ok (.bipush (-2), 2) := by decide +kernel
theorem dX0_isHidden_55 : decode cX0_isHidden 55 = .ok (.if_icmp .gt 7, 3) := by decide +kernel
theorem dX0_isHidden_58 : decode cX0_isHidden 58 = .ok (.iconst 1, 1) := by decide +kernel
theorem dX0_isHidden_59 : decode cX0_isHidden 59 = .ok (.goto 4, 3) := by decide +kernel
theorem dX0_isHidden_62 : decode cX0_isHidden 62 = .ok (.iconst 0, 1) := by decide +kernel
theorem dX0_isHidden_63 : decode cX0_isHidden 63 = .ok (.istore 5, 2) := by decide +kernel
theorem dX0_isHidden_65 : decode cX0_isHidden 65 = .ok (.iload 4, 2) := by decide +kernel
theorem dX0_isHidden_67 : decode cX0_isHidden 67 = .ok (.ifCond .ne 10, 3) := by decide +kernel
theorem dX0_isHidden_70 : decode cX0_isHidden 70 = .ok (.iload 5, 2) := by decide +kernel
theorem dX0_isHidden_72 : decode cX0_isHidden 72 = .ok (.ifCond .ne 5, 3) := by decide +kernel
theorem dX0_isHidden_75 : decode cX0_isHidden 75 = .ok (.iconst 0, 1) := by decide +kernel
theorem dX0_isHidden_76 : decode cX0_isHidden 76 = .ok (.ireturn, 1) := by decide +kernel
theorem dX0_isHidden_77 : decode cX0_isHidden 77 = .ok (.aload_n 0, 1) := by decide +kernel
theorem dX0_isHidden_78 : decode cX0_isHidden 78 = .ok (.iload_n 1, 1) := by decide +kernel
theorem dX0_isHidden_79 : decode cX0_isHidden 79 = .ok (.iconst 0, 1) := by decide +kernel
theorem dX0_isHidden_80 : decode cX0_isHidden 80 = .ok (.iconst 3, 1) := by decide +kernel
theorem dX0_isHidden_81 : decode cX0_isHidden 81 = .ok (.bipush 7, 2) := by decide +kernel
theorem dX0_isHidden_83 : decode cX0_isHidden 83 = .ok (.invokevirtual 187, 3) := by decide +kernel
theorem dX0_isHidden_86 : decode cX0_isHidden 86 = .ok (.ifCond .ne 14, 3) := by decide +kernel
theorem dX0_isHidden_89 : decode cX0_isHidden 89 = .ok (.aload_n 0, 1) := by decide +kernel
theorem dX0_isHidden_90 : decode cX0_isHidden 90 = .ok (.iload_n 1, 1) := by decide +kernel
theorem dX0_isHidden_91 : decode cX0_isHidden 91 = .ok (.iconst 0, 1) := by decide +kernel
theorem dX0_isHidden_92 : decode cX0_isHidden 92 = .ok (.iconst 3, 1) := by decide +kernel
theorem dX0_isHidden_93 : decode cX0_isHidden 93 = .ok (.iconst 0, 1) := by decide +kernel
theorem dX0_isHidden_94 : decode cX0_isHidden 94 = .ok (.invokevirtual 187, 3) := by decide +kernel
theorem dX0_isHidden_97 : decode cX0_isHidden 97 = .ok (.ifCond .eq 7, 3) := by decide +kernel
theorem dX0_isHidden_100 : decode cX0_isHidden 100 = .ok (.iconst 1, 1) := by decide +kernel
theorem dX0_isHidden_101 : decode cX0_isHidden 101 = .ok (.goto 4, 3) := by decide +kernel
theorem dX0_isHidden_104 : decode cX0_isHidden 104 = .ok (.iconst 0, 1) := by decide +kernel
theorem dX0_isHidden_105 : decode cX0_isHidden 105 = .ok (.ireturn, 1) := by decide +kernel
set_option maxRecDepth 20000 in
theorem ggX0_voicesAtFault_X0_isAtFault : GoodIn wsX0_voicesAtFault wsX0_isAtFault := goodIn_r _ [5, 6, 7, 8, 9, 4, 10, 11, 12, 13, 14, 15, 16, 17, 18, 19, 20] (by decide +kernel) (by decide +kernel)
set_option maxRecDepth 20000 in
theorem gX0_voicesAtFault_X0_isAtFault : GoodIn wsX0_voicesAtFault (wsV RX0 190 RX0 yX0_isAtFault wsX0_isAtFault) := goodIn_app (goodIn_of _ (by decide +kernel)) ggX0_voicesAtFault_X0_isAtFault
theorem dX0_voicesAtFault_0 : decode cX0_voicesAtFault 0 = .ok (.iconst 0, 1) := by decide +kernel
theorem dX0_voicesAtFault_1 : decode cX0_voicesAtFault 1 = .ok (.istore_n 3, 1) := by decide +kernel
theorem dX0_voicesAtFault_2 : decode cX0_voicesAtFault 2 = .ok (.iconst 1, 1) := by decide +kernel
theorem dX0_voicesAtFault_3 : decode cX0_voicesAtFault 3 = .ok (.istore 4, 2) := by decide +kernel
theorem dX0_voicesAtFault_5 : decode cX0_voicesAtFault 5 = .ok (.iload 4, 2) := by decide +kernel
theorem dX0_voicesAtFault_7 : decode cX0_voicesAtFault 7 = .ok (.iconst 3, 1) := by decide +kernel
theorem dX0_voicesAtFault_8 : decode cX0_voicesAtFault 8 = .ok (.if_icmp .gt 23, 3) := by decide +kernel
theorem dX0_voicesAtFault_11 : decode cX0_voicesAtFault 11 = .ok (.aload_n 0, 1) := by decide +kernel
theorem dX0_voicesAtFault_12 : decode cX0_voicesAtFault 12 = .ok (.iload_n 1, 1) := by decide +kernel
theorem dX0_voicesAtFault_13 : decode cX0_voicesAtFault 13 = .ok (.iload 4, 2) := by decide +kernel
theorem dX0_voicesAtFault_15 : decode cX0_voicesAtFault 15 = .ok (.iload_n 2, 1) := by decide +kernel
theorem dX0_voicesAtFault_16 : decode cX0_voicesAtFault 16 = .ok (.invokevirtual 190, 3) := by decide +kernel
theorem dX0_voicesAtFault_19 : decode cX0_voicesAtFault 19 = .ok (.ifCond .eq 6, 3) := by decide +kernel
theorem dX0_voicesAtFault_22 : decode cX0_voicesAtFault 22 = .ok (.iinc 3 1, 3) := by decide +kernel
theorem dX0_voicesAtFault_25 : decode cX0_voicesAtFault 25 = .ok (.iinc 4 1, 3) := by decide +kernel
theorem dX0_voicesAtFault_28 : decode cX0_voicesAtFault 28 = .ok (.goto (-23), 3) := by decide +kernel
theorem dX0_voicesAtFault_31 : decode cX0_voicesAtFault 31 = .ok (.iload_n 3, 1) := by decide +kernel
theorem dX0_voicesAtFault_32 : decode cX0_voicesAtFault 32 = .ok (.ireturn, 1) := by decide +kernel
set_option maxRecDepth 20000 in
theorem ggX0_isAtFault_X0_noteAt : GoodIn wsX0_isAtFault wsX0_noteAt := goodIn_r _ [6, 7, 11, 12, 13, 14, 15, 16] (by decide +kernel) (by decide +kernel)
set_option maxRecDepth 20000 in
theorem gX0_isAtFault_X0_noteAt : GoodIn wsX0_isAtFault (wsV RX0 99 RX0 yX0_noteAt wsX0_noteAt) := goodIn_app (goodIn_of _ (by decide +kernel)) ggX0_isAtFault_X0_noteAt
set_option maxRecDepth 20000 in
theorem ggX0_isAtFault_X0_stepAbove : GoodIn wsX0_isAtFault wsX0_stepAbove := goodIn_r _ [10] (by decide +kernel) (by decide +kernel)
set_option maxRecDepth 20000 in
theorem gX0_isAtFault_X0_stepAbove : GoodIn wsX0_isAtFault (va_wsS RX0 151 yX0_stepAbove wsX0_stepAbove) := goodIn_app (goodIn_of _ (by decide +kernel)) ggX0_isAtFault_X0_stepAbove
theorem dX0_isAtFault_0 : decode cX0_isAtFault 0 = .ok (.iload_n 1, 1) := by decide +kernel
theorem dX0_isAtFault_1 : decode cX0_isAtFault 1 = .ok (.iconst 1, 1) := by decide +kernel
theorem dX0_isAtFault_2 : decode cX0_isAtFault 2 = .ok (.isub, 1) := by decide +kernel
theorem dX0_isAtFault_3 : decode cX0_isAtFault 3 = .ok (.istore 4, 2) := by decide +kernel
theorem dX0_isAtFault_5 : decode cX0_isAtFault 5 = .ok (.aload_n 0, 1) := by decide +kernel
theorem dX0_isAtFault_6 : decode cX0_isAtFault 6 = .ok (.iload 4, 2) := by decide +kernel
theorem dX0_isAtFault_8 : decode cX0_isAtFault 8 = .ok (.iload_n 2, 1) := by decide +kernel
theorem dX0_isAtFault_9 : decode cX0_isAtFault 9 = .ok (.invokevirtual 99, 3) := by decide +kernel
theorem dX0_isAtFault_12 : decode cX0_isAtFault 12 = .ok (.istore 5, 2) := by decide +kernel
theorem dX0_isAtFault_14 : decode cX0_isAtFault 14 = .ok (.aload_n 0, 1) := by decide +kernel
theorem dX0_isAtFault_15 : decode cX0_isAtFault 15 = .ok (.iload_n 1, 1) := by decide +kernel
theorem dX0_isAtFault_16 : decode cX0_isAtFault 16 = .ok (.iload_n 2, 1) := by decide +kernel
theorem dX0_isAtFault_17 : decode cX0_isAtFault 17 = .ok (.invokevirtual 99, 3) := by decide +kernel
theorem dX0_isAtFault_20 : decode cX0_isAtFault 20 = .ok (.istore 6, 2) := by decide +kernel
theorem dX0_isAtFault_22 : decode cX0_isAtFault 22 = .ok (.iload 6, 2) := by decide +kernel
theorem dX0_isAtFault_24 : decode cX0_isAtFault 24 = .ok (.iload 5, 2) := by decide +kernel
theorem dX0_isAtFault_26 : decode cX0_isAtFault 26 = .ok (.isub, 1) := by decide +kernel
theorem dX0_isAtFault_27 : decode cX0_isAtFault 27 = .ok (.istore 7, 2) := by decide +kernel
theorem dX0_isAtFault_29 : decode cX0_isAtFault 29 = .ok (.iload_n 3, 1) := by decide +kernel
theorem dX0_isAtFault_30 : decode cX0_isAtFault 30 = .ok (.tableswitch 207 3 7 #[34, 70, 109, 143, 188], 34) := by decide +kernel
theorem dX0_isAtFault_64 : decode cX0_isAtFault 64 = .ok (.aload_n 0, 1) := by decide +kernel
theorem dX0_isAtFault_65 : decode cX0_isAtFault 65 = .ok (.getfield 17, 3) := by decide +kernel
theorem dX0_isAtFault_68 : decode cX0_isAtFault 68 = .ok (.iload_n 1, 1) := by decide +kernel
theorem dX0_isAtFault_69 : decode cX0_isAtFault 69 = .ok (.iaload, 1) := by decide +kernel
theorem dX0_isAtFault_70 : decode cX0_isAtFault 70 = .ok (.iconst 4, 1) := by decide +kernel
theorem dX0_isAtFault_71 : decode cX0_isAtFault 71 = .ok (.if_icmp .ne 27, 3) := by decide +kernel
theorem dX0_isAtFault_74 : decode cX0_isAtFault 74 = .ok (.aload_n 0, 1) := by decide +kernel
theorem dX0_isAtFault_75 : decode cX0_isAtFault 75 = .ok (.iload_n 1, 1) := by decide +kernel
theorem dX0_isAtFault_76 : decode cX0_isAtFault 76 = .ok (.iconst 0, 1) := by decide +kernel
theorem dX0_isAtFault_77 : decode cX0_isAtFault 77 = .ok (.invokevirtual 99, 3) := by decide +kernel
theorem dX0_isAtFault_80 : decode cX0_isAtFault 80 = .ok (.iload 6, 2) := by decide +kernel
theorem dX0_isAtFault_82 : decode cX0_isAtFault 82 = .ok (.invokestatic 151, 3) := by decide +kernel
theorem dX0_isAtFault_85 : decode cX0_isAtFault 85 = .ok (.iconst 3, 1) := by decide +kernel
theorem dX0_isAtFault_86 : decode cX0_isAtFault 86 = .ok (.if_icmp .ne 12, 3) := by decide +kernel
theorem dX0_isAtFault_89 : decode cX0_isAtFault 89 = .ok (.iload 7, 2) := by decide +kernel
theorem dX0_isAtFault_91 : decode cX0_isAtFault 91 = .ok (.ifCond .eq 7, 3) := by decide +kernel
theorem dX0_isAtFault_94 : decode cX0_isAtFault 94 = .ok (.iconst 1, 1) := by decide +kernel
theorem dX0_isAtFault_95 : decode cX0_isAtFault 95 = .ok (.goto 4, 3) := by decide +kernel
theorem dX0_isAtFault_98 : decode cX0_isAtFault 98 = .ok (.iconst 0, 1) := by decide +kernel
theorem dX0_isAtFault_99 : decode cX0_isAtFault 99 = .ok (.ireturn, 1) := by decide +kernel
theorem dX0_isAtFault_100 : decode cX0_isAtFault 100 = .ok (.aload_n 0, 1) := by decide +kernel
theorem dX0_isAtFault_101 : decode cX0_isAtFault 101 = .ok (.getfield 17, 3) := by decide +kernel
theorem dX0_isAtFault_104 : decode cX0_isAtFault 104 = .ok (.iload 4, 2) := by decide +kernel
theorem dX0_isAtFault_106 : decode cX0_isAtFault 106 = .ok (.iaload, 1) := by decide +kernel
theorem dX0_isAtFault_107 : decode cX0_isAtFault 107 = .ok (.iconst 4, 1) := by decide +kernel
theorem dX0_isAtFault_108 : decode cX0_isAtFault 108 = .ok (.if_icmp .ne 29, 3) := by decide +kernel
theorem dX0_isAtFault_111 : decode cX0_isAtFault 111 = .ok (.aload_n 0, 1) := by decide +kernel
theorem dX0_isAtFault_112 : decode cX0_isAtFault 112 = .ok (.iload 4, 2) := by decide +kernel
theorem dX0_isAtFault_114 : decode cX0_isAtFault 114 = .ok (.iconst 0, 1) := by decide +kernel
theorem dX0_isAtFault_115 : decode cX0_isAtFault 115 = .ok (.invokevirtual 99, 3) := by decide +kernel
theorem dX0_isAtFault_118 : decode cX0_isAtFault 118 = .ok (.iload 5, 2) := by decide +kernel
theorem dX0_isAtFault_120 : decode cX0_isAtFault 120 = .ok (.invokestatic 151, 3) := by decide +kernel
theorem dX0_isAtFault_123 : decode cX0_isAtFault 123 = .ok (.iconst 3, 1) := by decide +kernel
theorem dX0_isAtFault_124 : decode cX0_isAtFault 124 = .ok (.if_icmp .ne 13, 3) := by decide +kernel
theorem dX0_isAtFault_127 : decode cX0_isAtFault 127 = .ok (.iload 7, 2) := by decide +kernel
theorem dX0_isAtFault_129 : decode cX0_isAtFault 129 = .ok (.iconst (-1), 1) := by decide +kernel
theorem dX0_isAtFault_130 : decode cX0_isAtFault 130 = .ok (.if_icmp .eq 7, 3) := by decide +kernel
theorem dX0_isAtFault_133 : decode cX0_isAtFault 133 = .ok (.iconst 1, 1) := by decide +kernel
theorem dX0_isAtFault_134 : decode cX0_isAtFault 134 = .ok (.goto 4, 3) := by decide +kernel
theorem dX0_isAtFault_137 : decode cX0_isAtFault 137 = .ok (.iconst 0, 1) := by decide +kernel
theorem dX0_isAtFault_138 : decode cX0_isAtFault 138 = .ok (.ireturn, 1) := by decide +kernel
theorem dX0_isAtFault_139 : decode cX0_isAtFault 139 = .ok (.aload_n 0, 1) := by decide +kernel
theorem dX0_isAtFault_140 : decode cX0_isAtFault 140 = .ok (.iload_n 1, 1) := by decide +kernel
theorem dX0_isAtFault_141 : decode cX0_isAtFault 141 = .ok (.iconst 0, 1) := by decide +kernel
theorem dX0_isAtFault_142 : decode cX0_isAtFault 142 = .ok (.invokevirtual 99, 3) := by decide +kernel
theorem dX0_isAtFault_145 : decode cX0_isAtFault 145 = .ok (.bipush 7, 2) := by decide +kernel
theorem dX0_isAtFault_147 : decode cX0_isAtFault 147 = .ok (.irem, 1) := by decide +kernel
theorem dX0_isAtFault_148 : decode cX0_isAtFault 148 = .ok (.ifCond .ne 23, 3) := by decide +kernel
theorem dX0_isAtFault_151 : decode cX0_isAtFault 151 = .ok (.iload 5, 2) := by decide +kernel
theorem dX0_isAtFault_153 : decode cX0_isAtFault 153 = .ok (.bipush 7, 2) := by decide +kernel
theorem dX0_isAtFault_155 : decode cX0_isAtFault 155 = .ok (.irem, 1) := by decide +kernel
theorem dX0_isAtFault_156 : decode cX0_isAtFault 156 = .ok (.bipush 6, 2) := by decide +kernel
theorem dX0_isAtFault_158 : decode cX0_isAtFault 158 = .ok (.if_icmp .ne 13, 3) := by decide +kernel
theorem dX0_isAtFault_161 : decode cX0_isAtFault 161 = .ok (.iload 7, 2) := by decide +kernel
theorem dX0_isAtFault_163 : decode cX0_isAtFault 163 = .ok (.iconst 1, 1) := by decide +kernel
theorem dX0_isAtFault_164 : decode cX0_isAtFault 164 = .ok (.if_icmp .eq 7, 3) := by decide +kernel
theorem dX0_isAtFault_167 : decode cX0_isAtFault 167 = .ok (.iconst 1, 1) := by decide +kernel
theorem dX0_isAtFault_168 : decode cX0_isAtFault 168 = .ok (.goto 4, 3) := by decide +kernel
theorem dX0_isAtFault_171 : decode cX0_isAtFault 171 = .ok (.iconst 0, 1) := by decide +kernel
theorem dX0_isAtFault_172 : decode cX0_isAtFault 172 = .ok (.ireturn, 1) := by decide +kernel
theorem dX0_isAtFault_173 : decode cX0_isAtFault 173 = .ok (.aload_n 0, 1) := by decide +kernel
theorem dX0_isAtFault_174 : decode cX0_isAtFault 174 = .ok (.getfield 17, 3) := by decide +kernel
theorem dX0_isAtFault_177 : decode cX0_isAtFault 177 = .ok (.iload 4, 2) := by decide +kernel
theorem dX0_isAtFault_179 : decode cX0_isAtFault 179 = .ok (.iaload, 1) := by decide +kernel
theorem dX0_isAtFault_180 : decode cX0_isAtFault 180 = .ok (.iconst 3, 1) := by decide +kernel
theorem dX0_isAtFault_181 : decode cX0_isAtFault 181 = .ok (.if_icmp .ne 35, 3) := by decide +kernel
theorem dX0_isAtFault_184 : decode cX0_isAtFault 184 = .ok (.aload_n 0, 1) := by decide +kernel
theorem dX0_isAtFault_185 : decode cX0_isAtFault 185 = .ok (.iload 4, 2) := by decide +kernel
theorem dX0_isAtFault_187 : decode cX0_isAtFault 187 = .ok (.iconst 0, 1) := by decide +kernel
theorem dX0_isAtFault_188 : decode cX0_isAtFault 188 = .ok (.invokevirtual 99, 3) := by decide +kernel
theorem dX0_isAtFault_191 : decode cX0_isAtFault 191 = .ok (.iload 5, 2) := by decide +kernel
theorem dX0_isAtFault_193 : decode cX0_isAtFault 193 = .ok (.invokestatic 151, 3) := by decide +kernel
theorem dX0_isAtFault_196 : decode cX0_isAtFault 196 = .ok (.bipush 6, 2) := by decide +kernel
theorem dX0_isAtFault_198 : decode cX0_isAtFault 198 = .ok (.if_icmp .ne 18, 3) := by decide +kernel
theorem dX0_isAtFault_201 : decode cX0_isAtFault 201 = .ok (.iload 7, 2) := by decide +kernel
theorem dX0_isAtFault_203 : decode cX0_isAtFault 203 = .ok (.ifCond .eq 13, 3) := by decide +kernel
theorem dX0_isAtFault_206 : decode cX0_isAtFault 206 = .ok (.iload 7, 2) := by decide +kernel
theorem dX0_isAtFault_208 : decode cX0_isAtFault 208 = .ok (.iconst (-1), 1) := by decide +kernel
theorem dX0_isAtFault_209 : decode cX0_isAtFault 209 = .ok (.if_icmp .eq 7, 3) := by decide +kernel
theorem dX0_isAtFault_212 : decode cX0_isAtFault 212 = .ok (.iconst 1, 1) := by decide +kernel
theorem dX0_isAtFault_213 : decode cX0_isAtFault 213 = .ok (.goto 4, 3) := by decide +kernel
theorem dX0_isAtFault_216 : decode cX0_isAtFault 216 = .ok (.iconst 0, 1) := by decide +kernel
theorem dX0_isAtFault_217 : decode cX0_isAtFault 217 = .ok (.ireturn, 1) := by decide +kernel
theorem dX0_isAtFault_218 : decode cX0_isAtFault 218 = .ok (.iload 7, 2) := by decide +kernel
theorem dX0_isAtFault_220 : decode cX0_isAtFault 220 = .ok (.iconst 4, 1) := by decide +kernel
theorem dX0_isAtFault_221 : decode cX0_isAtFault 221 = .ok (.if_icmp .gt 10, 3) := by decide +kernel
theorem dX0_isAtFault_224 : decode cX0_isAtFault 224 = .ok (.iload 7, 2) := by decide +kernel
theorem dX0_isAtFault_226 : decode cX0_isAtFault 226 = .ok (.bipush (-4), 2) := by decide +kernel
theorem dX0_isAtFault_228 : decode cX0_isAtFault 228 = .ok (.if_icmp .ge 7, 3) := by decide +kernel
theorem dX0_isAtFault_231 : decode cX0_isAtFault 231 = .ok (.iconst 1, 1) := by decide +kernel
theorem dX0_isAtFault_232 : decode cX0_isAtFault 232 = .ok (.goto 4, 3) := by decide +kernel
theorem dX0_isAtFault_235 : decode cX0_isAtFault 235 = .ok (.iconst 0, 1) := by decide +kernel
theorem dX0_isAtFault_236 : decode cX0_isAtFault 236 = .ok (.ireturn, 1) := by decide +kernel
theorem dX0_isAtFault_237 : decode cX0_isAtFault 237 = .ok (.iconst 0, 1) := by decide +kernel
theorem dX0_isAtFault_238 : decode cX0_isAtFault 238 = .ok (.ireturn, 1) := by decide +kernel
set_option maxRecDepth 20000 in
theorem ggX0_allFaultsOf_X0_faultsOf : GoodIn wsX0_allFaultsOf wsX0_faultsOf := goodIn_r _ [5, 6, 7, 8, 4, 9, 10, 11, 12, 13, 14, 15, 16, 17, 18, 19, 20, 21, 22, 23, 24, 25, 26, 27, 28, 29, 30, 31, 32, 33, 34, 35, 36, 37, 38, 39, 40, 41, 42, 43, 44, 45, 46, 47, 48, 49, 50, 51, 52, 53, 54, 55, 56, 57, 58, 59, 60, 61, 62, 63, 64] (by decide +kernel) (by decide +kernel)
set_option maxRecDepth 20000 in
theorem gX0_allFaultsOf_X0_faultsOf : GoodIn wsX0_allFaultsOf (wsV RX0 110 RX0 yX0_faultsOf wsX0_faultsOf) := goodIn_app (goodIn_of _ (by decide +kernel)) ggX0_allFaultsOf_X0_faultsOf
theorem dX0_allFaultsOf_0 : decode cX0_allFaultsOf 0 = .ok (.iconst 0, 1) := by decide +kernel
theorem dX0_allFaultsOf_1 : decode cX0_allFaultsOf 1 = .ok (.istore_n 2, 1) := by decide +kernel
theorem dX0_allFaultsOf_2 : decode cX0_allFaultsOf 2 = .ok (.iconst 0, 1) := by decide +kernel
theorem dX0_allFaultsOf_3 : decode cX0_allFaultsOf 3 = .ok (.istore_n 3, 1) := by decide +kernel
theorem dX0_allFaultsOf_4 : decode cX0_allFaultsOf 4 = .ok (.iload_n 3, 1) := by decide +kernel
theorem dX0_allFaultsOf_5 : decode cX0_allFaultsOf 5 = .ok (.bipush 8, 2) := by decide +kernel
theorem dX0_allFaultsOf_7 : decode cX0_allFaultsOf 7 = .ok (.if_icmp .ge 18, 3) := by decide +kernel
theorem dX0_allFaultsOf_10 : decode cX0_allFaultsOf 10 = .ok (.iload_n 2, 1) := by decide +kernel
theorem dX0_allFaultsOf_11 : decode cX0_allFaultsOf 11 = .ok (.aload_n 0, 1) := by decide +kernel
theorem dX0_allFaultsOf_12 : decode cX0_allFaultsOf 12 = .ok (.iload_n 1, 1) := by decide +kernel
theorem dX0_allFaultsOf_13 : decode cX0_allFaultsOf 13 = .ok (.iload_n 3, 1) := by decide +kernel
theorem dX0_allFaultsOf_14 : decode cX0_allFaultsOf 14 = .ok (.invokevirtual 110, 3) := by decide +kernel
theorem dX0_allFaultsOf_17 : decode cX0_allFaultsOf 17 = .ok (.iadd, 1) := by decide +kernel
theorem dX0_allFaultsOf_18 : decode cX0_allFaultsOf 18 = .ok (.istore_n 2, 1) := by decide +kernel
theorem dX0_allFaultsOf_19 : decode cX0_allFaultsOf 19 = .ok (.iinc 3 1, 3) := by decide +kernel
theorem dX0_allFaultsOf_22 : decode cX0_allFaultsOf 22 = .ok (.goto (-18), 3) := by decide +kernel
theorem dX0_allFaultsOf_25 : decode cX0_allFaultsOf 25 = .ok (.iload_n 2, 1) := by decide +kernel
theorem dX0_allFaultsOf_26 : decode cX0_allFaultsOf 26 = .ok (.ireturn, 1) := by decide +kernel
set_option maxRecDepth 20000 in
theorem ggX0_listWays_X0_belongs : GoodIn wsX0_listWays wsX0_belongs := goodIn_r _ [11, 12, 13, 14, 15, 16, 10, 17, 18, 19, 20, 21, 31, 32, 33, 34, 35, 36] (by decide +kernel) (by decide +kernel)
set_option maxRecDepth 20000 in
theorem gX0_listWays_X0_belongs : GoodIn wsX0_listWays (wsV RX0 126 RX0 yX0_belongs wsX0_belongs) := goodIn_app (goodIn_of _ (by decide +kernel)) ggX0_listWays_X0_belongs
set_option maxRecDepth 20000 in
theorem ggX0_listWays_X0_listSopranos : GoodIn wsX0_listWays wsX0_listSopranos := goodIn_r _ [25, 1, 3, 4, 5, 6, 2, 26, 27, 28, 29, 10, 30, 12, 13, 14, 15, 16, 17, 18, 19, 20, 21, 31, 32, 33, 34, 35, 36] (by decide +kernel) (by decide +kernel)
set_option maxRecDepth 20000 in
theorem gX0_listWays_X0_listSopranos : GoodIn wsX0_listWays (wsV RX0 197 RX0 yX0_listSopranos wsX0_listSopranos) := goodIn_app (goodIn_of _ (by decide +kernel)) ggX0_listWays_X0_listSopranos
theorem dX0_listWays_0 : decode cX0_listWays 0 = .ok (.iconst 0, 1) := by decide +kernel
theorem dX0_listWays_1 : decode cX0_listWays 1 = .ok (.istore_n 2, 1) := by decide +kernel
theorem dX0_listWays_2 : decode cX0_listWays 2 = .ok (.getstatic 139, 3) := by decide +kernel
theorem dX0_listWays_5 : decode cX0_listWays 5 = .ok (.iconst 1, 1) := by decide +kernel
theorem dX0_listWays_6 : decode cX0_listWays 6 = .ok (.iaload, 1) := by decide +kernel
theorem dX0_listWays_7 : decode cX0_listWays 7 = .ok (.istore_n 3, 1) := by decide +kernel
theorem dX0_listWays_8 : decode cX0_listWays 8 = .ok (.iload_n 3, 1) := by decide +kernel
theorem dX0_listWays_9 : decode cX0_listWays 9 = .ok (.getstatic 142, 3) := by decide +kernel
theorem dX0_listWays_12 : decode cX0_listWays 12 = .ok (.iconst 1, 1) := by decide +kernel
theorem dX0_listWays_13 : decode cX0_listWays 13 = .ok (.iaload, 1) := by decide +kernel
theorem dX0_listWays_14 : decode cX0_listWays 14 = .ok (.if_icmp .gt 65, 3) := by decide +kernel
theorem dX0_listWays_17 : decode cX0_listWays 17 = .ok (.aload_n 0, 1) := by decide +kernel
theorem dX0_listWays_18 : decode cX0_listWays 18 = .ok (.iload_n 1, 1) := by decide +kernel
theorem dX0_listWays_19 : decode cX0_listWays 19 = .ok (.iload_n 3, 1) := by decide +kernel
theorem dX0_listWays_20 : decode cX0_listWays 20 = .ok (.invokevirtual 126, 3) := by decide +kernel
theorem dX0_listWays_23 : decode cX0_listWays 23 = .ok (.ifCond .eq 50, 3) := by decide +kernel
theorem dX0_listWays_26 : decode cX0_listWays 26 = .ok (.iload_n 3, 1) := by decide +kernel
theorem dX0_listWays_27 : decode cX0_listWays 27 = .ok (.getstatic 139, 3) := by decide +kernel
theorem dX0_listWays_30 : decode cX0_listWays 30 = .ok (.iconst 2, 1) := by decide +kernel
theorem dX0_listWays_31 : decode cX0_listWays 31 = .ok (.iaload, 1) := by decide +kernel
theorem dX0_listWays_32 : decode cX0_listWays 32 = .ok (.invokestatic 194, 3) := by decide +kernel
theorem dX0_listWays_35 : decode cX0_listWays 35 = .ok (.istore 4, 2) := by decide +kernel
theorem dX0_listWays_37 : decode cX0_listWays 37 = .ok (.iload 4, 2) := by decide +kernel
theorem dX0_listWays_39 : decode cX0_listWays 39 = .ok (.getstatic 142, 3) := by decide +kernel
theorem dX0_listWays_42 : decode cX0_listWays 42 = .ok (.iconst 2, 1) := by decide +kernel
theorem dX0_listWays_43 : decode cX0_listWays 43 = .ok (.iaload, 1) := by decide +kernel
theorem dX0_listWays_44 : decode cX0_listWays 44 = .ok (.if_icmp .gt 29, 3) := by decide +kernel
theorem dX0_listWays_47 : decode cX0_listWays 47 = .ok (.aload_n 0, 1) := by decide +kernel
theorem dX0_listWays_48 : decode cX0_listWays 48 = .ok (.iload_n 1, 1) := by decide +kernel
theorem dX0_listWays_49 : decode cX0_listWays 49 = .ok (.iload 4, 2) := by decide +kernel
theorem dX0_listWays_51 : decode cX0_listWays 51 = .ok (.invokevirtual 126, 3) := by decide +kernel
theorem dX0_listWays_54 : decode cX0_listWays 54 = .ok (.ifCond .eq 13, 3) := by decide +kernel
theorem dX0_listWays_57 : decode cX0_listWays 57 = .ok (.aload_n 0, 1) := by decide +kernel
theorem dX0_listWays_58 : decode cX0_listWays 58 = .ok (.iload_n 1, 1) := by decide +kernel
theorem dX0_listWays_59 : decode cX0_listWays 59 = .ok (.iload_n 3, 1) := by decide +kernel
theorem dX0_listWays_60 : decode cX0_listWays 60 = .ok (.iload 4, 2) := by decide +kernel
theorem dX0_listWays_62 : decode cX0_listWays 62 = .ok (.iload_n 2, 1) := by decide +kernel
theorem dX0_listWays_63 : decode cX0_listWays 63 = .ok (.invokevirtual 197, 3) := by decide +kernel
theorem dX0_listWays_66 : decode cX0_listWays 66 = .ok (.istore_n 2, 1) := by decide +kernel
theorem dX0_listWays_67 : decode cX0_listWays 67 = .ok (.iinc 4 1, 3) := by decide +kernel
theorem dX0_listWays_70 : decode cX0_listWays 70 = .ok (.goto (-33), 3) := by decide +kernel
theorem dX0_listWays_73 : decode cX0_listWays 73 = .ok (.iinc 3 1, 3) := by decide +kernel
theorem dX0_listWays_76 : decode cX0_listWays 76 = .ok (.goto (-68), 3) := by decide +kernel
theorem dX0_listWays_79 : decode cX0_listWays 79 = .ok (.iload_n 2, 1) := by decide +kernel
theorem dX0_listWays_80 : decode cX0_listWays 80 = .ok (.ireturn, 1) := by decide +kernel
set_option maxRecDepth 20000 in
theorem ggX0_listSopranos_X0_isRightWith : GoodIn wsX0_listSopranos wsX0_isRightWith := goodIn_r _ [12, 13, 14, 15, 16, 17, 11, 18, 19, 20, 21, 22, 23, 24, 25, 26, 27, 28] (by decide +kernel) (by decide +kernel)
set_option maxRecDepth 20000 in
theorem gX0_listSopranos_X0_isRightWith : GoodIn wsX0_listSopranos (wsV RX0 157 RX0 yX0_isRightWith wsX0_isRightWith) := goodIn_app (goodIn_of _ (by decide +kernel)) ggX0_listSopranos_X0_isRightWith
theorem dX0_listSopranos_0 : decode cX0_listSopranos 0 = .ok (.iload 4, 2) := by decide +kernel
theorem dX0_listSopranos_2 : decode cX0_listSopranos 2 = .ok (.istore 5, 2) := by decide +kernel
theorem dX0_listSopranos_4 : decode cX0_listSopranos 4 = .ok (.iload_n 3, 1) := by decide +kernel
theorem dX0_listSopranos_5 : decode cX0_listSopranos 5 = .ok (.getstatic 139, 3) := by decide +kernel
theorem dX0_listSopranos_8 : decode cX0_listSopranos 8 = .ok (.iconst 3, 1) := by decide +kernel
theorem dX0_listSopranos_9 : decode cX0_listSopranos 9 = .ok (.iaload, 1) := by decide +kernel
theorem dX0_listSopranos_10 : decode cX0_listSopranos 10 = .ok (.invokestatic 194, 3) := by decide +kernel
theorem dX0_listSopranos_13 : decode cX0_listSopranos 13 = .ok (.istore 6, 2) := by decide +kernel
theorem dX0_listSopranos_15 : decode cX0_listSopranos 15 = .ok (.iload 6, 2) := by decide +kernel
theorem dX0_listSopranos_17 : decode cX0_listSopranos 17 = .ok (.getstatic 142, 3) := by decide +kernel
theorem dX0_listSopranos_20 : decode cX0_listSopranos 20 = .ok (.iconst 3, 1) := by decide +kernel
theorem dX0_listSopranos_21 : decode cX0_listSopranos 21 = .ok (.iaload, 1) := by decide +kernel
theorem dX0_listSopranos_22 : decode cX0_listSopranos 22 = .ok (.if_icmp .gt 54, 3) := by decide +kernel
theorem dX0_listSopranos_25 : decode cX0_listSopranos 25 = .ok (.aload_n 0, 1) := by decide +kernel
theorem dX0_listSopranos_26 : decode cX0_listSopranos 26 = .ok (.iload_n 1, 1) := by decide +kernel
theorem dX0_listSopranos_27 : decode cX0_listSopranos 27 = .ok (.iload_n 2, 1) := by decide +kernel
theorem dX0_listSopranos_28 : decode cX0_listSopranos 28 = .ok (.iload_n 3, 1) := by decide +kernel
theorem dX0_listSopranos_29 : decode cX0_listSopranos 29 = .ok (.iload 6, 2) := by decide +kernel
theorem dX0_listSopranos_31 : decode cX0_listSopranos 31 = .ok (.invokevirtual 157, 3) := by decide +kernel
theorem dX0_listSopranos_34 : decode cX0_listSopranos 34 = .ok (.ifCond .eq 36, 3) := by decide +kernel
theorem dX0_listSopranos_37 : decode cX0_listSopranos 37 = .ok (.iload 5, 2) := by decide +kernel
theorem dX0_listSopranos_39 : decode cX0_listSopranos 39 = .ok (.aload_n 0, 1) := by decide +kernel
theorem dX0_listSopranos_40 : decode cX0_listSopranos 40 = .ok (.getfield 27, 3) := by decide +kernel
theorem dX0_listSopranos_43 : decode cX0_listSopranos 43 = .ok (.arraylength, 1) := by decide +kernel
theorem dX0_listSopranos_44 : decode cX0_listSopranos 44 = .ok (.if_icmp .ge 26, 3) := by decide +kernel
theorem dX0_listSopranos_47 : decode cX0_listSopranos 47 = .ok (.aload_n 0, 1) := by decide +kernel
theorem dX0_listSopranos_48 : decode cX0_listSopranos 48 = .ok (.getfield 27, 3) := by decide +kernel
theorem dX0_listSopranos_51 : decode cX0_listSopranos 51 = .ok (.iload 5, 2) := by decide +kernel
theorem dX0_listSopranos_53 : decode cX0_listSopranos 53 = .ok (.iload_n 2, 1) := by decide +kernel
theorem dX0_listSopranos_54 : decode cX0_listSopranos 54 = .ok (.sipush 784, 3) := by decide +kernel
theorem dX0_listSopranos_57 : decode cX0_listSopranos 57 = .ok (.imul, 1) := by decide +kernel
theorem dX0_listSopranos_58 : decode cX0_listSopranos 58 = .ok (.iload_n 3, 1) := by decide +kernel
theorem dX0_listSopranos_59 : decode cX0_listSopranos 59 = .ok (.bipush 28, 2) := by decide +kernel
theorem dX0_listSopranos_61 : decode cX0_listSopranos 61 = .ok (.imul, 1) := by decide +kernel
theorem dX0_listSopranos_62 : decode cX0_listSopranos 62 = .ok (.iadd, 1) := by decide +kernel
theorem dX0_listSopranos_63 : decode cX0_listSopranos 63 = .ok (.iload 6, 2) := by decide +kernel
theorem dX0_listSopranos_65 : decode cX0_listSopranos 65 = .ok (.iadd, 1) := by decide +kernel
theorem dX0_listSopranos_66 : decode cX0_listSopranos 66 = .ok (.iastore, 1) := by decide +kernel
theorem dX0_listSopranos_67 : decode cX0_listSopranos 67 = .ok (.iinc 5 1, 3) := by decide +kernel
theorem dX0_listSopranos_70 : decode cX0_listSopranos 70 = .ok (.iinc 6 1, 3) := by decide +kernel
theorem dX0_listSopranos_73 : decode cX0_listSopranos 73 = .ok (.goto (-58), 3) := by decide +kernel
theorem dX0_listSopranos_76 : decode cX0_listSopranos 76 = .ok (.iload 5, 2) := by decide +kernel
theorem dX0_listSopranos_78 : decode cX0_listSopranos 78 = .ok (.ireturn, 1) := by decide +kernel
set_option maxRecDepth 20000 in
theorem ggX0_bestWay_X0_noteAt : GoodIn wsX0_bestWay wsX0_noteAt := goodIn_r _ [6, 7, 107, 108, 109, 110, 111, 112] (by decide +kernel) (by decide +kernel)
set_option maxRecDepth 20000 in
theorem gX0_bestWay_X0_noteAt : GoodIn wsX0_bestWay (wsV RX0 99 RX0 yX0_noteAt wsX0_noteAt) := goodIn_app (goodIn_of _ (by decide +kernel)) ggX0_bestWay_X0_noteAt
set_option maxRecDepth 20000 in
theorem ggX0_bestWay_X0_listWays : GoodIn wsX0_bestWay wsX0_listWays := goodIn_r _ [11, 12, 13, 14, 15, 16, 17, 18, 19, 20, 5, 21, 22, 23, 2, 3, 4, 6, 7, 24, 25, 26, 27, 28, 29, 30, 1, 31, 32, 33, 34, 107, 108, 109, 110, 111, 112] (by decide +kernel) (by decide +kernel)
set_option maxRecDepth 20000 in
theorem gX0_bestWay_X0_listWays : GoodIn wsX0_bestWay (wsV RX0 129 RX0 yX0_listWays wsX0_listWays) := goodIn_app (goodIn_of _ (by decide +kernel)) ggX0_bestWay_X0_listWays
set_option maxRecDepth 20000 in
theorem ggX0_bestWay_X0_putWay : GoodIn wsX0_bestWay wsX0_putWay := goodIn_r _ [38, 39, 40, 41, 5, 42, 7, 107, 108, 109, 110, 111, 112] (by decide +kernel) (by decide +kernel)
set_option maxRecDepth 20000 in
theorem gX0_bestWay_X0_putWay : GoodIn wsX0_bestWay (wsV RX0 90 RX0 yX0_putWay wsX0_putWay) := goodIn_app (goodIn_of _ (by decide +kernel)) ggX0_bestWay_X0_putWay
set_option maxRecDepth 20000 in
theorem ggX0_bestWay_X0_costOf : GoodIn wsX0_bestWay wsX0_costOf := goodIn_r _ [46, 47, 48, 49, 50, 5, 51, 52, 53, 54, 55, 56, 2, 3, 4, 6, 7, 57, 58, 59, 60, 31, 32, 33, 34, 22, 23, 24, 25, 26, 61, 62, 63, 64, 65, 66, 16, 67, 68, 69, 70, 71, 72, 73, 74, 75, 76, 77, 78, 79, 80, 81, 82, 83, 84, 85, 86, 87, 88, 89, 90, 91, 92, 93, 94, 95, 96, 97, 98, 99, 100, 101, 102, 103, 104, 105, 106, 107, 108, 109, 110, 111, 112] (by decide +kernel) (by decide +kernel)
set_option maxRecDepth 20000 in
theorem gX0_bestWay_X0_costOf : GoodIn wsX0_bestWay (wsV RX0 94 RX0 yX0_costOf wsX0_costOf) := goodIn_app (goodIn_of _ (by decide +kernel)) ggX0_bestWay_X0_costOf
set_option maxRecDepth 20000 in
theorem ggX0_bestWay_X0_putNotes : GoodIn wsX0_bestWay wsX0_putNotes := goodIn_r _ [42, 7, 107, 108, 109, 110, 111, 112] (by decide +kernel) (by decide +kernel)
set_option maxRecDepth 20000 in
theorem gX0_bestWay_X0_putNotes : GoodIn wsX0_bestWay (wsV RX0 52 RX0 yX0_putNotes wsX0_putNotes) := goodIn_app (goodIn_of _ (by decide +kernel)) ggX0_bestWay_X0_putNotes
theorem dX0_bestWay_0 : decode cX0_bestWay 0 = .ok (.aload_n 0, 1) := by decide +kernel
theorem dX0_bestWay_1 : decode cX0_bestWay 1 = .ok (.iload_n 1, 1) := by decide +kernel
theorem dX0_bestWay_2 : decode cX0_bestWay 2 = .ok (.iconst 1, 1) := by decide +kernel
theorem dX0_bestWay_3 : decode cX0_bestWay 3 = .ok (.invokevirtual 99, 3) := by decide +kernel
theorem dX0_bestWay_6 : decode cX0_bestWay 6 = .ok (.istore_n 2, 1) := by decide +kernel
theorem dX0_bestWay_7 : decode cX0_bestWay 7 = .ok (.aload_n 0, 1) := by decide +kernel
theorem dX0_bestWay_8 : decode cX0_bestWay 8 = .ok (.iload_n 1, 1) := by decide +kernel
theorem dX0_bestWay_9 : decode cX0_bestWay 9 = .ok (.iconst 2, 1) := by decide +kernel
theorem dX0_bestWay_10 : decode cX0_bestWay 10 = .ok (.invokevirtual 99, 3) := by decide +kernel
theorem dX0_bestWay_13 : decode cX0_bestWay 13 = .ok (.istore_n 3, 1) := by decide +kernel
theorem dX0_bestWay_14 : decode cX0_bestWay 14 = .ok (.aload_n 0, 1) := by decide +kernel
theorem dX0_bestWay_15 : decode cX0_bestWay 15 = .ok (.iload_n 1, 1) := by decide +kernel
theorem dX0_bestWay_16 : decode cX0_bestWay 16 = .ok (.iconst 3, 1) := by decide +kernel
theorem dX0_bestWay_17 : decode cX0_bestWay 17 = .ok (.invokevirtual 99, 3) := by decide +kernel
theorem dX0_bestWay_20 : decode cX0_bestWay 20 = .ok (.istore 4, 2) := by decide +kernel
theorem dX0_bestWay_22 : decode cX0_bestWay 22 = .ok (.aload_n 0, 1) := by decide +kernel
theorem dX0_bestWay_23 : decode cX0_bestWay 23 = .ok (.iload_n 1, 1) := by decide +kernel
theorem dX0_bestWay_24 : decode cX0_bestWay 24 = .ok (.invokevirtual 129, 3) := by decide +kernel
theorem dX0_bestWay_27 : decode cX0_bestWay 27 = .ok (.istore 5, 2) := by decide +kernel
theorem dX0_bestWay_29 : decode cX0_bestWay 29 = .ok (.iconst (-1), 1) := by decide +kernel
theorem dX0_bestWay_30 : decode cX0_bestWay 30 = .ok (.istore 6, 2) := by decide +kernel
theorem dX0_bestWay_32 : decode cX0_bestWay 32 = .ok (.iconst 0, 1) := by decide +kernel
theorem dX0_bestWay_33 : decode cX0_bestWay 33 = .ok (.istore 7, 2) := by decide +kernel
theorem dX0_bestWay_35 : decode cX0_bestWay 35 = .ok (.iconst 0, 1) := by decide +kernel
theorem dX0_bestWay_36 : decode cX0_bestWay 36 = .ok (.istore 8, 2) := by decide +kernel
theorem dX0_bestWay_38 : decode cX0_bestWay 38 = .ok (.iload 8, 2) := by decide +kernel
theorem dX0_bestWay_40 : decode cX0_bestWay 40 = .ok (.iload 5, 2) := by decide +kernel
theorem dX0_bestWay_42 : decode cX0_bestWay 42 = .ok (.if_icmp .ge 71, 3) := by decide +kernel
theorem dX0_bestWay_45 : decode cX0_bestWay 45 = .ok (.iload 8, 2) := by decide +kernel
theorem dX0_bestWay_47 : decode cX0_bestWay 47 = .ok (.aload_n 0, 1) := by decide +kernel
theorem dX0_bestWay_48 : decode cX0_bestWay 48 = .ok (.getfield 27, 3) := by decide +kernel
theorem dX0_bestWay_51 : decode cX0_bestWay 51 = .ok (.arraylength, 1) := by decide +kernel
theorem dX0_bestWay_52 : decode cX0_bestWay 52 = .ok (.if_icmp .ge 61, 3) := by decide +kernel
theorem dX0_bestWay_55 : decode cX0_bestWay 55 = .ok (.aload_n 0, 1) := by decide +kernel
theorem dX0_bestWay_56 : decode cX0_bestWay 56 = .ok (.iload_n 1, 1) := by decide +kernel
theorem dX0_bestWay_57 : decode cX0_bestWay 57 = .ok (.aload_n 0, 1) := by decide +kernel
theorem dX0_bestWay_58 : decode cX0_bestWay 58 = .ok (.getfield 27, 3) := by decide +kernel
theorem dX0_bestWay_61 : decode cX0_bestWay 61 = .ok (.iload 8, 2) := by decide +kernel
theorem dX0_bestWay_63 : decode cX0_bestWay 63 = .ok (.iaload, 1) := by decide +kernel
theorem dX0_bestWay_64 : decode cX0_bestWay 64 = .ok (.invokevirtual 90, 3) := by decide +kernel
theorem dX0_bestWay_67 : decode cX0_bestWay 67 = .ok (.aload_n 0, 1) := by decide +kernel
theorem dX0_bestWay_68 : decode cX0_bestWay 68 = .ok (.iload_n 1, 1) := by decide +kernel
theorem dX0_bestWay_69 : decode cX0_bestWay 69 = .ok (.invokevirtual 94, 3) := by decide +kernel
theorem dX0_bestWay_72 : decode cX0_bestWay 72 = .ok (.aload_n 0, 1) := by decide +kernel
theorem dX0_bestWay_73 : decode cX0_bestWay 73 = .ok (.iload_n 1, 1) := by decide +kernel
theorem dX0_bestWay_74 : decode cX0_bestWay 74 = .ok (.iconst 1, 1) := by decide +kernel
theorem dX0_bestWay_75 : decode cX0_bestWay 75 = .ok (.iadd, 1) := by decide +kernel
theorem dX0_bestWay_76 : decode cX0_bestWay 76 = .ok (.invokevirtual 94, 3) := by decide +kernel
theorem dX0_bestWay_79 : decode cX0_bestWay 79 = .ok (.iadd, 1) := by decide +kernel
theorem dX0_bestWay_80 : decode cX0_bestWay 80 = .ok (.istore 9, 2) := by decide +kernel
theorem dX0_bestWay_82 : decode cX0_bestWay 82 = .ok (.iload 6, 2) := by decide +kernel
theorem dX0_bestWay_84 : decode cX0_bestWay 84 = .ok (.ifCond .lt 10, 3) := by decide +kernel
theorem dX0_bestWay_87 : decode cX0_bestWay 87 = .ok (.iload 9, 2) := by decide +kernel
theorem dX0_bestWay_89 : decode cX0_bestWay 89 = .ok (.iload 7, 2) := by decide +kernel
theorem dX0_bestWay_91 : decode cX0_bestWay 91 = .ok (.if_icmp .ge 16, 3) := by decide +kernel
theorem dX0_bestWay_94 : decode cX0_bestWay 94 = .ok (.aload_n 0, 1) := by decide +kernel
theorem dX0_bestWay_95 : decode cX0_bestWay 95 = .ok (.getfield 27, 3) := by decide +kernel
theorem dX0_bestWay_98 : decode cX0_bestWay 98 = .ok (.iload 8, 2) := by decide +kernel
theorem dX0_bestWay_100 : decode cX0_bestWay 100 = .ok (.iaload, 1) := by decide +kernel
theorem dX0_bestWay_101 : decode cX0_bestWay 101 = .ok (.istore 6, 2) := by decide +kernel
theorem dX0_bestWay_103 : decode cX0_bestWay 103 = .ok (.iload 9, 2) := by decide +kernel
theorem dX0_bestWay_105 : decode cX0_bestWay 105 = .ok (.istore 7, 2) := by decide +kernel
theorem dX0_bestWay_107 : decode cX0_bestWay 107 = .ok (.iinc 8 1, 3) := by decide +kernel
theorem dX0_bestWay_110 : decode cX0_bestWay 110 = .ok (.goto (-72), 3) := by decide +kernel
theorem dX0_bestWay_113 : decode cX0_bestWay 113 = .ok (.aload_n 0, 1) := by decide +kernel
theorem dX0_bestWay_114 : decode cX0_bestWay 114 = .ok (.iload_n 1, 1) := by decide +kernel
theorem dX0_bestWay_115 : decode cX0_bestWay 115 = .ok (.iload_n 2, 1) := by decide +kernel
theorem dX0_bestWay_116 : decode cX0_bestWay 116 = .ok (.iload_n 3, 1) := by decide +kernel
theorem dX0_bestWay_117 : decode cX0_bestWay 117 = .ok (.iload 4, 2) := by decide +kernel
theorem dX0_bestWay_119 : decode cX0_bestWay 119 = .ok (.invokevirtual 52, 3) := by decide +kernel
theorem dX0_bestWay_122 : decode cX0_bestWay 122 = .ok (.iload 6, 2) := by decide +kernel
theorem dX0_bestWay_124 : decode cX0_bestWay 124 = .ok (.ireturn, 1) := by decide +kernel
set_option maxRecDepth 20000 in
theorem ggX0_tellOf_X0_noteAt : GoodIn wsX0_tellOf wsX0_noteAt := goodIn_r _ [6, 7, 81, 82, 83, 84, 85, 86] (by decide +kernel) (by decide +kernel)
set_option maxRecDepth 20000 in
theorem gX0_tellOf_X0_noteAt : GoodIn wsX0_tellOf (wsV RX0 99 RX0 yX0_noteAt wsX0_noteAt) := goodIn_app (goodIn_of _ (by decide +kernel)) ggX0_tellOf_X0_noteAt
set_option maxRecDepth 20000 in
theorem ggX0_tellOf_X0_isSet : GoodIn wsX0_tellOf wsX0_isSet := goodIn_r _ [11, 12, 13, 14, 5, 15, 16, 2, 3, 4, 6, 7, 81, 82, 83, 84, 85, 86] (by decide +kernel) (by decide +kernel)
set_option maxRecDepth 20000 in
theorem gX0_tellOf_X0_isSet : GoodIn wsX0_tellOf (wsV RX0 154 RX0 yX0_isSet wsX0_isSet) := goodIn_app (goodIn_of _ (by decide +kernel)) ggX0_tellOf_X0_isSet
set_option maxRecDepth 20000 in
theorem ggX0_tellOf_X0_isRight : GoodIn wsX0_tellOf wsX0_isRight := goodIn_r _ [20, 8, 9, 10, 5, 11, 12, 13, 14, 15, 16, 2, 3, 4, 6, 7, 21, 22, 23, 24, 25, 1, 26, 27, 28, 81, 82, 83, 84, 85, 86] (by decide +kernel) (by decide +kernel)
set_option maxRecDepth 20000 in
theorem gX0_tellOf_X0_isRight : GoodIn wsX0_tellOf (wsV RX0 169 RX0 yX0_isRight wsX0_isRight) := goodIn_app (goodIn_of _ (by decide +kernel)) ggX0_tellOf_X0_isRight
set_option maxRecDepth 20000 in
theorem ggX0_tellOf_X0_stepsGone : GoodIn wsX0_tellOf wsX0_stepsGone := goodIn_r _ [32, 33, 34, 35, 36, 37, 38, 39, 5, 40, 8, 9, 10, 11, 12, 13, 14, 15, 16, 2, 3, 4, 6, 7, 81, 82, 83, 84, 85, 86] (by decide +kernel) (by decide +kernel)
set_option maxRecDepth 20000 in
theorem gX0_tellOf_X0_stepsGone : GoodIn wsX0_tellOf (wsV RX0 172 RX0 yX0_stepsGone wsX0_stepsGone) := goodIn_app (goodIn_of _ (by decide +kernel)) ggX0_tellOf_X0_stepsGone
set_option maxRecDepth 20000 in
theorem ggX0_tellOf_X0_costOf : GoodIn wsX0_tellOf wsX0_costOf := goodIn_r _ [44, 45, 8, 9, 10, 5, 11, 12, 13, 14, 15, 16, 2, 3, 4, 6, 7, 17, 18, 19, 20, 21, 22, 23, 24, 25, 1, 26, 27, 28, 29, 30, 31, 32, 33, 34, 35, 36, 37, 38, 39, 40, 46, 47, 48, 49, 50, 51, 52, 53, 54, 55, 56, 57, 58, 59, 60, 61, 62, 63, 64, 65, 66, 67, 68, 69, 70, 71, 72, 73, 74, 75, 76, 77, 78, 79, 80, 81, 82, 83, 84, 85, 86] (by decide +kernel) (by decide +kernel)
set_option maxRecDepth 20000 in
theorem gX0_tellOf_X0_costOf : GoodIn wsX0_tellOf (wsV RX0 94 RX0 yX0_costOf wsX0_costOf) := goodIn_app (goodIn_of _ (by decide +kernel)) ggX0_tellOf_X0_costOf
theorem dX0_tellOf_0 : decode cX0_tellOf 0 = .ok (.iload_n 2, 1) := by decide +kernel
theorem dX0_tellOf_1 : decode cX0_tellOf 1 = .ok (.tableswitch 86 0 4 #[35, 42, 52, 66, 80], 35) := by decide +kernel
theorem dX0_tellOf_36 : decode cX0_tellOf 36 = .ok (.aload_n 0, 1) := by decide +kernel
theorem dX0_tellOf_37 : decode cX0_tellOf 37 = .ok (.getfield 17, 3) := by decide +kernel
theorem dX0_tellOf_40 : decode cX0_tellOf 40 = .ok (.iload_n 1, 1) := by decide +kernel
theorem dX0_tellOf_41 : decode cX0_tellOf 41 = .ok (.iaload, 1) := by decide +kernel
theorem dX0_tellOf_42 : decode cX0_tellOf 42 = .ok (.ireturn, 1) := by decide +kernel
theorem dX0_tellOf_43 : decode cX0_tellOf 43 = .ok (.aload_n 0, 1) := by decide +kernel
theorem dX0_tellOf_44 : decode cX0_tellOf 44 = .ok (.iload_n 1, 1) := by decide +kernel
theorem dX0_tellOf_45 : decode cX0_tellOf 45 = .ok (.iconst 0, 1) := by decide +kernel
theorem dX0_tellOf_46 : decode cX0_tellOf 46 = .ok (.invokevirtual 99, 3) := by decide +kernel
theorem dX0_tellOf_49 : decode cX0_tellOf 49 = .ok (.bipush 7, 2) := by decide +kernel
theorem dX0_tellOf_51 : decode cX0_tellOf 51 = .ok (.irem, 1) := by decide +kernel
theorem dX0_tellOf_52 : decode cX0_tellOf 52 = .ok (.ireturn, 1) := by decide +kernel
theorem dX0_tellOf_53 : decode cX0_tellOf 53 = .ok (.aload_n 0, 1) := by decide +kernel
theorem dX0_tellOf_54 : decode cX0_tellOf 54 = .ok (.iload_n 1, 1) := by decide +kernel
theorem dX0_tellOf_55 : decode cX0_tellOf 55 = .ok (.invokevirtual 154, 3) := by decide +kernel
theorem dX0_tellOf_58 : decode cX0_tellOf 58 = .ok (.ifCond .eq 7, 3) := by decide +kernel
theorem dX0_tellOf_61 : decode cX0_tellOf 61 = .ok (.iconst 1, 1) := by decide +kernel
theorem dX0_tellOf_62 : decode cX0_tellOf 62 = .ok (.goto 4, 3) := by decide +kernel
theorem dX0_tellOf_65 : decode cX0_tellOf 65 = .ok (.iconst 0, 1) := by decide +kernel
theorem dX0_tellOf_66 : decode cX0_tellOf 66 = .ok (.ireturn, 1) := by decide +kernel
theorem dX0_tellOf_67 : decode cX0_tellOf 67 = .ok (.aload_n 0, 1) := by decide +kernel
theorem dX0_tellOf_68 : decode cX0_tellOf 68 = .ok (.iload_n 1, 1) := by decide +kernel
theorem dX0_tellOf_69 : decode cX0_tellOf 69 = .ok (.invokevirtual 169, 3) := by decide +kernel
theorem dX0_tellOf_72 : decode cX0_tellOf 72 = .ok (.ifCond .eq 7, 3) := by decide +kernel
theorem dX0_tellOf_75 : decode cX0_tellOf 75 = .ok (.iconst 1, 1) := by decide +kernel
theorem dX0_tellOf_76 : decode cX0_tellOf 76 = .ok (.goto 4, 3) := by decide +kernel
theorem dX0_tellOf_79 : decode cX0_tellOf 79 = .ok (.iconst 0, 1) := by decide +kernel
theorem dX0_tellOf_80 : decode cX0_tellOf 80 = .ok (.ireturn, 1) := by decide +kernel
theorem dX0_tellOf_81 : decode cX0_tellOf 81 = .ok (.aload_n 0, 1) := by decide +kernel
theorem dX0_tellOf_82 : decode cX0_tellOf 82 = .ok (.iload_n 1, 1) := by decide +kernel
theorem dX0_tellOf_83 : decode cX0_tellOf 83 = .ok (.invokevirtual 172, 3) := by decide +kernel
theorem dX0_tellOf_86 : decode cX0_tellOf 86 = .ok (.ireturn, 1) := by decide +kernel
theorem dX0_tellOf_87 : decode cX0_tellOf 87 = .ok (.aload_n 0, 1) := by decide +kernel
theorem dX0_tellOf_88 : decode cX0_tellOf 88 = .ok (.iload_n 1, 1) := by decide +kernel
theorem dX0_tellOf_89 : decode cX0_tellOf 89 = .ok (.invokevirtual 94, 3) := by decide +kernel
theorem dX0_tellOf_92 : decode cX0_tellOf 92 = .ok (.ireturn, 1) := by decide +kernel
set_option maxRecDepth 20000 in
theorem ggX0_countOf_X0_isSet : GoodIn wsX0_countOf wsX0_isSet := goodIn_r _ [7, 8, 9, 10, 6, 11, 2, 12, 13, 14, 15, 16, 85, 86, 87, 88, 89, 90] (by decide +kernel) (by decide +kernel)
set_option maxRecDepth 20000 in
theorem gX0_countOf_X0_isSet : GoodIn wsX0_countOf (wsV RX0 154 RX0 yX0_isSet wsX0_isSet) := goodIn_app (goodIn_of _ (by decide +kernel)) ggX0_countOf_X0_isSet
set_option maxRecDepth 20000 in
theorem ggX0_countOf_X0_isRight : GoodIn wsX0_countOf wsX0_isRight := goodIn_r _ [20, 3, 4, 5, 6, 7, 8, 9, 10, 11, 2, 12, 13, 14, 15, 16, 21, 22, 23, 24, 25, 26, 27, 28, 29, 85, 86, 87, 88, 89, 90] (by decide +kernel) (by decide +kernel)
set_option maxRecDepth 20000 in
theorem gX0_countOf_X0_isRight : GoodIn wsX0_countOf (wsV RX0 169 RX0 yX0_isRight wsX0_isRight) := goodIn_app (goodIn_of _ (by decide +kernel)) ggX0_countOf_X0_isRight
set_option maxRecDepth 20000 in
theorem ggX0_countOf_X0_stepsGone : GoodIn wsX0_countOf wsX0_stepsGone := goodIn_r _ [33, 34, 35, 36, 37, 38, 39, 40, 6, 41, 3, 4, 5, 7, 8, 9, 10, 11, 2, 12, 13, 14, 15, 16, 85, 86, 87, 88, 89, 90] (by decide +kernel) (by decide +kernel)
set_option maxRecDepth 20000 in
theorem gX0_countOf_X0_stepsGone : GoodIn wsX0_countOf (wsV RX0 172 RX0 yX0_stepsGone wsX0_stepsGone) := goodIn_app (goodIn_of _ (by decide +kernel)) ggX0_countOf_X0_stepsGone
set_option maxRecDepth 20000 in
theorem ggX0_countOf_X0_allFaultsOf : GoodIn wsX0_countOf wsX0_allFaultsOf := goodIn_r _ [45, 46, 47, 48, 6, 49, 38, 39, 40, 41, 3, 4, 5, 7, 8, 9, 10, 11, 2, 12, 13, 14, 15, 16, 50, 51, 52, 53, 54, 55, 56, 57, 58, 59, 60, 61, 62, 63, 64, 65, 1, 66, 67, 68, 69, 70, 71, 72, 73, 74, 75, 76, 77, 78, 79, 26, 27, 28, 29, 85, 86, 87, 88, 89, 90] (by decide +kernel) (by decide +kernel)
set_option maxRecDepth 20000 in
theorem gX0_countOf_X0_allFaultsOf : GoodIn wsX0_countOf (wsV RX0 201 RX0 yX0_allFaultsOf wsX0_allFaultsOf) := goodIn_app (goodIn_of _ (by decide +kernel)) ggX0_countOf_X0_allFaultsOf
set_option maxRecDepth 20000 in
theorem ggX0_countOf_X0_costOf : GoodIn wsX0_countOf wsX0_costOf := goodIn_r _ [83, 84, 3, 4, 5, 6, 7, 8, 9, 10, 11, 2, 12, 13, 14, 15, 16, 17, 18, 19, 20, 21, 22, 23, 24, 25, 26, 27, 28, 29, 30, 31, 32, 33, 34, 35, 36, 37, 38, 39, 40, 41, 46, 47, 48, 49, 50, 51, 52, 53, 54, 55, 56, 57, 58, 59, 60, 61, 62, 63, 64, 65, 1, 66, 67, 68, 69, 70, 71, 72, 73, 74, 75, 76, 77, 78, 79, 85, 86, 87, 88, 89, 90] (by decide +kernel) (by decide +kernel)
set_option maxRecDepth 20000 in
theorem gX0_countOf_X0_costOf : GoodIn wsX0_countOf (wsV RX0 94 RX0 yX0_costOf wsX0_costOf) := goodIn_app (goodIn_of _ (by decide +kernel)) ggX0_countOf_X0_costOf
theorem dX0_countOf_0 : decode cX0_countOf 0 = .ok (.iload_n 1, 1) := by decide +kernel
theorem dX0_countOf_1 : decode cX0_countOf 1 = .ok (.bipush 6, 2) := by decide +kernel
theorem dX0_countOf_3 : decode cX0_countOf 3 = .ok (.if_icmp .ne 16, 3) := by decide +kernel
theorem dX0_countOf_6 : decode cX0_countOf 6 = .ok (.aload_n 0, 1) := by decide +kernel
theorem dX0_countOf_7 : decode cX0_countOf 7 = .ok (.getfield 13, 3) := by decide +kernel
theorem dX0_countOf_10 : decode cX0_countOf 10 = .ok (.ifCond .eq 7, 3) := by decide +kernel
theorem dX0_countOf_13 : decode cX0_countOf 13 = .ok (.iconst 1, 1) := by decide +kernel
theorem dX0_countOf_14 : decode cX0_countOf 14 = .ok (.goto 4, 3) := by decide +kernel
theorem dX0_countOf_17 : decode cX0_countOf 17 = .ok (.iconst 0, 1) := by decide +kernel
theorem dX0_countOf_18 : decode cX0_countOf 18 = .ok (.ireturn, 1) := by decide +kernel
theorem dX0_countOf_19 : decode cX0_countOf 19 = .ok (.iconst 0, 1) := by decide +kernel
theorem dX0_countOf_20 : decode cX0_countOf 20 = .ok (.istore_n 2, 1) := by decide +kernel
theorem dX0_countOf_21 : decode cX0_countOf 21 = .ok (.iconst 0, 1) := by decide +kernel
theorem dX0_countOf_22 : decode cX0_countOf 22 = .ok (.istore_n 3, 1) := by decide +kernel
theorem dX0_countOf_23 : decode cX0_countOf 23 = .ok (.iload_n 3, 1) := by decide +kernel
theorem dX0_countOf_24 : decode cX0_countOf 24 = .ok (.aload_n 0, 1) := by decide +kernel
theorem dX0_countOf_25 : decode cX0_countOf 25 = .ok (.getfield 7, 3) := by decide +kernel
theorem dX0_countOf_28 : decode cX0_countOf 28 = .ok (.if_icmp .ge 120, 3) := by decide +kernel
theorem dX0_countOf_31 : decode cX0_countOf 31 = .ok (.iload_n 1, 1) := by decide +kernel
theorem dX0_countOf_32 : decode cX0_countOf 32 = .ok (.tableswitch 102 0 4 #[36, 42, 61, 80, 91], 36) := by decide +kernel
theorem dX0_countOf_68 : decode cX0_countOf 68 = .ok (.iinc 2 1, 3) := by decide +kernel
theorem dX0_countOf_71 : decode cX0_countOf 71 = .ok (.goto 71, 3) := by decide +kernel
theorem dX0_countOf_74 : decode cX0_countOf 74 = .ok (.iload_n 2, 1) := by decide +kernel
theorem dX0_countOf_75 : decode cX0_countOf 75 = .ok (.aload_n 0, 1) := by decide +kernel
theorem dX0_countOf_76 : decode cX0_countOf 76 = .ok (.iload_n 3, 1) := by decide +kernel
theorem dX0_countOf_77 : decode cX0_countOf 77 = .ok (.invokevirtual 154, 3) := by decide +kernel
theorem dX0_countOf_80 : decode cX0_countOf 80 = .ok (.ifCond .eq 7, 3) := by decide +kernel
theorem dX0_countOf_83 : decode cX0_countOf 83 = .ok (.iconst 1, 1) := by decide +kernel
theorem dX0_countOf_84 : decode cX0_countOf 84 = .ok (.goto 4, 3) := by decide +kernel
theorem dX0_countOf_87 : decode cX0_countOf 87 = .ok (.iconst 0, 1) := by decide +kernel
theorem dX0_countOf_88 : decode cX0_countOf 88 = .ok (.iadd, 1) := by decide +kernel
theorem dX0_countOf_89 : decode cX0_countOf 89 = .ok (.istore_n 2, 1) := by decide +kernel
theorem dX0_countOf_90 : decode cX0_countOf 90 = .ok (.goto 52, 3) := by decide +kernel
theorem dX0_countOf_93 : decode cX0_countOf 93 = .ok (.iload_n 2, 1) := by decide +kernel
theorem dX0_countOf_94 : decode cX0_countOf 94 = .ok (.aload_n 0, 1) := by decide +kernel
theorem dX0_countOf_95 : decode cX0_countOf 95 = .ok (.iload_n 3, 1) := by decide +kernel
theorem dX0_countOf_96 : decode cX0_countOf 96 = .ok (.invokevirtual 169, 3) := by decide +kernel
theorem dX0_countOf_99 : decode cX0_countOf 99 = .ok (.ifCond .eq 7, 3) := by decide +kernel
theorem dX0_countOf_102 : decode cX0_countOf 102 = .ok (.iconst 1, 1) := by decide +kernel
theorem dX0_countOf_103 : decode cX0_countOf 103 = .ok (.goto 4, 3) := by decide +kernel
theorem dX0_countOf_106 : decode cX0_countOf 106 = .ok (.iconst 0, 1) := by decide +kernel
theorem dX0_countOf_107 : decode cX0_countOf 107 = .ok (.iadd, 1) := by decide +kernel
theorem dX0_countOf_108 : decode cX0_countOf 108 = .ok (.istore_n 2, 1) := by decide +kernel
theorem dX0_countOf_109 : decode cX0_countOf 109 = .ok (.goto 33, 3) := by decide +kernel
theorem dX0_countOf_112 : decode cX0_countOf 112 = .ok (.iload_n 2, 1) := by decide +kernel
theorem dX0_countOf_113 : decode cX0_countOf 113 = .ok (.aload_n 0, 1) := by decide +kernel
theorem dX0_countOf_114 : decode cX0_countOf 114 = .ok (.iload_n 3, 1) := by decide +kernel
theorem dX0_countOf_115 : decode cX0_countOf 115 = .ok (.invokevirtual 172, 3) := by decide +kernel
theorem dX0_countOf_118 : decode cX0_countOf 118 = .ok (.iadd, 1) := by decide +kernel
theorem dX0_countOf_119 : decode cX0_countOf 119 = .ok (.istore_n 2, 1) := by decide +kernel
theorem dX0_countOf_120 : decode cX0_countOf 120 = .ok (.goto 22, 3) := by decide +kernel
theorem dX0_countOf_123 : decode cX0_countOf 123 = .ok (.iload_n 2, 1) := by decide +kernel
theorem dX0_countOf_124 : decode cX0_countOf 124 = .ok (.aload_n 0, 1) := by decide +kernel
theorem dX0_countOf_125 : decode cX0_countOf 125 = .ok (.iload_n 3, 1) := by decide +kernel
theorem dX0_countOf_126 : decode cX0_countOf 126 = .ok (.invokevirtual 201, 3) := by decide +kernel
theorem dX0_countOf_129 : decode cX0_countOf 129 = .ok (.iadd, 1) := by decide +kernel
theorem dX0_countOf_130 : decode cX0_countOf 130 = .ok (.istore_n 2, 1) := by decide +kernel
theorem dX0_countOf_131 : decode cX0_countOf 131 = .ok (.goto 11, 3) := by decide +kernel
theorem dX0_countOf_134 : decode cX0_countOf 134 = .ok (.iload_n 2, 1) := by decide +kernel
theorem dX0_countOf_135 : decode cX0_countOf 135 = .ok (.aload_n 0, 1) := by decide +kernel
theorem dX0_countOf_136 : decode cX0_countOf 136 = .ok (.iload_n 3, 1) := by decide +kernel
theorem dX0_countOf_137 : decode cX0_countOf 137 = .ok (.invokevirtual 94, 3) := by decide +kernel
theorem dX0_countOf_140 : decode cX0_countOf 140 = .ok (.iadd, 1) := by decide +kernel
theorem dX0_countOf_141 : decode cX0_countOf 141 = .ok (.istore_n 2, 1) := by decide +kernel
theorem dX0_countOf_142 : decode cX0_countOf 142 = .ok (.iinc 3 1, 3) := by decide +kernel
theorem dX0_countOf_145 : decode cX0_countOf 145 = .ok (.goto (-122), 3) := by decide +kernel
theorem dX0_countOf_148 : decode cX0_countOf 148 = .ok (.iload_n 2, 1) := by decide +kernel
theorem dX0_countOf_149 : decode cX0_countOf 149 = .ok (.ireturn, 1) := by decide +kernel
end
section
/-! Small tools for the functions that wip/whole/gen.py writes out of the bytecode (my own rows; fb_ is my prefix). -/
theorem fb_it {α : Type} {c : Prop} [Decidable c] {a b x : α} (hc : c) (h : (if c then a else b) = x) : a = x := by
  rw [if_pos hc] at h; exact h
theorem fb_ie {α : Type} {c : Prop} [Decidable c] {a b x : α} (hc : ¬ c) (h : (if c then a else b) = x) : b = x := by
  rw [if_neg hc] at h; exact h
def fb_ck {α : Type} (b : Bool) (k : Option α) : Option α := match b with
  | true => k
  | false => none
theorem fb_cks {α : Type} {b : Bool} {k : Option α} {x : α} (h : fb_ck b k = some x) : b = true ∧ k = some x := by
  cases b with
  | false => cases h
  | true => exact ⟨rfl, h⟩
def fb_ix (i : Int32) (n : Nat) : Bool := decide (¬ i < 0) && decide (i.toNatClampNeg < n)
theorem fb_ixin {i : Int32} {n : Nat} (h : fb_ix i n = true) : vp_in i n := by
  unfold fb_ix at h
  simp only [Bool.and_eq_true, decide_eq_true_eq] at h
  intro q
  rcases q with q | q
  · exact h.1 q
  · have := h.2
    omega
def fb_z (r : Int32) : Bool := decide (r = 0) || decide (r = 1)
theorem fb_zor {r : Int32} (h : fb_z r = true) : r = 0 ∨ r = 1 := by
  unfold fb_z at h
  simpa using h
theorem fb_zn {r : Int32} (h : fb_z r = true) : narrow .boolean (.int r) = .int r := by
  rcases fb_zor h with e | e <;> rw [e] <;> rfl
theorem fb_zf {r : Int32} (h : fb_z r = true) : fits .boolean (.int r) = true := by
  rcases fb_zor h with e | e <;> rw [e] <;> rfl
def fb_b0 {β : Type} (o : Option Unit) (k : Option β) : Option β := match o with
  | some _ => k
  | none => none
def fb_b1 {α β : Type} (o : Option α) (k : α → Option β) : Option β := match o with
  | some a => k a
  | none => none
def fb_b2 {α1 α2 β : Type} (o : Option (α1 × α2)) (k : α1 → α2 → Option β) : Option β := match o with
  | some a => k a.1 a.2
  | none => none
def fb_b3 {α1 α2 α3 β : Type} (o : Option (α1 × α2 × α3)) (k : α1 → α2 → α3 → Option β) : Option β := match o with
  | some a => k a.1 a.2.1 a.2.2
  | none => none
def fb_b4 {α1 α2 α3 α4 β : Type} (o : Option (α1 × α2 × α3 × α4)) (k : α1 → α2 → α3 → α4 → Option β) : Option β := match o with
  | some a => k a.1 a.2.1 a.2.2.1 a.2.2.2
  | none => none
def fb_b5 {α1 α2 α3 α4 α5 β : Type} (o : Option (α1 × α2 × α3 × α4 × α5)) (k : α1 → α2 → α3 → α4 → α5 → Option β) : Option β := match o with
  | some a => k a.1 a.2.1 a.2.2.1 a.2.2.2.1 a.2.2.2.2
  | none => none
def fb_b6 {α1 α2 α3 α4 α5 α6 β : Type} (o : Option (α1 × α2 × α3 × α4 × α5 × α6)) (k : α1 → α2 → α3 → α4 → α5 → α6 → Option β) : Option β := match o with
  | some a => k a.1 a.2.1 a.2.2.1 a.2.2.2.1 a.2.2.2.2.1 a.2.2.2.2.2
  | none => none
theorem fb_b0s {β : Type} {o : Option Unit} {k : Option β} {x : β} (h : fb_b0 o k = some x) : o = some () ∧ k = some x := by
  cases o with
  | none => cases h
  | some a => exact ⟨rfl, h⟩
theorem fb_b1s {α β : Type} {o : Option α} {k : α → Option β} {x : β} (h : fb_b1 o k = some x) : ∃ a, o = some a ∧ k a = some x := by
  cases o with
  | none => cases h
  | some a => exact ⟨a, rfl, h⟩
theorem fb_b2s {α1 α2 β : Type} {o : Option (α1 × α2)} {k : α1 → α2 → Option β} {x : β} (h : fb_b2 o k = some x) : ∃ a1 a2, o = some (a1, a2) ∧ k a1 a2 = some x := by
  cases o with
  | none => cases h
  | some a => exact ⟨a.1, a.2, rfl, h⟩
theorem fb_b3s {α1 α2 α3 β : Type} {o : Option (α1 × α2 × α3)} {k : α1 → α2 → α3 → Option β} {x : β} (h : fb_b3 o k = some x) : ∃ a1 a2 a3, o = some (a1, a2, a3) ∧ k a1 a2 a3 = some x := by
  cases o with
  | none => cases h
  | some a => exact ⟨a.1, a.2.1, a.2.2, rfl, h⟩
theorem fb_b4s {α1 α2 α3 α4 β : Type} {o : Option (α1 × α2 × α3 × α4)} {k : α1 → α2 → α3 → α4 → Option β} {x : β} (h : fb_b4 o k = some x) : ∃ a1 a2 a3 a4, o = some (a1, a2, a3, a4) ∧ k a1 a2 a3 a4 = some x := by
  cases o with
  | none => cases h
  | some a => exact ⟨a.1, a.2.1, a.2.2.1, a.2.2.2, rfl, h⟩
theorem fb_b5s {α1 α2 α3 α4 α5 β : Type} {o : Option (α1 × α2 × α3 × α4 × α5)} {k : α1 → α2 → α3 → α4 → α5 → Option β} {x : β} (h : fb_b5 o k = some x) : ∃ a1 a2 a3 a4 a5, o = some (a1, a2, a3, a4, a5) ∧ k a1 a2 a3 a4 a5 = some x := by
  cases o with
  | none => cases h
  | some a => exact ⟨a.1, a.2.1, a.2.2.1, a.2.2.2.1, a.2.2.2.2, rfl, h⟩
theorem fb_b6s {α1 α2 α3 α4 α5 α6 β : Type} {o : Option (α1 × α2 × α3 × α4 × α5 × α6)} {k : α1 → α2 → α3 → α4 → α5 → α6 → Option β} {x : β} (h : fb_b6 o k = some x) : ∃ a1 a2 a3 a4 a5 a6, o = some (a1, a2, a3, a4, a5, a6) ∧ k a1 a2 a3 a4 a5 a6 = some x := by
  cases o with
  | none => cases h
  | some a => exact ⟨a.1, a.2.1, a.2.2.1, a.2.2.2.1, a.2.2.2.2.1, a.2.2.2.2.2, rfl, h⟩
/-! static int arrays -/
def fb_tab (l : List Int32) : Nat → Int32 := fun j => l.getD j 0
def fb_stA (C n : String) (N : Nat) (f : Nat → Int32) (A : Nat → Prop) (U : State) (H : Heap) : Prop := ∃ t : Nat, va_Z C n "[I" (.ref t) A U H ∧ va_T .int t N (fun j => .int (f j)) A U H
theorem fb_stA_moved {C n : String} {N : Nat} {f : Nat → Int32} {A : Nat → Prop} {u U : State} {H : Heap} (hvm : u.vm.Alike U.vm) (h : fb_stA C n N f A u H) : fb_stA C n N f A U H := by
  obtain ⟨t, h1, h2⟩ := h
  exact ⟨t, h1.moved hvm, h2.moved hvm⟩
theorem fb_stA_kept {C n : String} {N : Nat} {f : Nat → Int32} {A : Nat → Prop} {U : State} {H H1 : Heap} (h : fb_stA C n N f A U H) (hq : ∀ a : Nat, a < H.size → ¬ A a → H1[a]? = H[a]?) : fb_stA C n N f A U H1 := by
  obtain ⟨t, h1, h2⟩ := h
  exact ⟨t, h1.kept hq, h2.kept hq⟩
theorem fb_stA_narrow {C n : String} {N : Nat} {f : Nat → Int32} {A B : Nat → Prop} {U : State} {H : Heap} (h : fb_stA C n N f A U H) (hAB : ∀ q, B q → A q) : fb_stA C n N f B U H := by
  obtain ⟨t, h1, h2⟩ := h
  exact ⟨t, h1.narrow hAB, h2.narrow hAB⟩
/-- what is said of statics, and stays -/
def fb_SP (S : (Nat → Prop) → State → Heap → Prop) : Prop :=
  (∀ (A : Nat → Prop) (u U : State) (H : Heap), u.WarmedH U.vm → S A u H → S A U H) ∧
  (∀ (A : Nat → Prop) (U : State) (H H1 : Heap), S A U H → (∀ a : Nat, a < H.size → ¬ A a → H1[a]? = H[a]?) → S A U H1) ∧
  (∀ (A B : Nat → Prop) (U : State) (H : Heap), S A U H → (∀ q, B q → A q) → S B U H)
theorem fb_SP_stA (C n : String) (N : Nat) (f : Nat → Int32) : fb_SP (fb_stA C n N f) :=
  ⟨fun _ _ _ _ hvm h => fb_stA_moved hvm.alike h, fun _ _ _ _ h hq => fb_stA_kept h hq, fun _ _ _ _ h hAB => fb_stA_narrow h hAB⟩
theorem fb_SP_and {S T : (Nat → Prop) → State → Heap → Prop} (hs : fb_SP S) (ht : fb_SP T) : fb_SP (fun A U H => S A U H ∧ T A U H) :=
  ⟨fun A u U H hvm h => ⟨hs.1 A u U H hvm h.1, ht.1 A u U H hvm h.2⟩, fun A U H H1 h hq => ⟨hs.2.1 A U H H1 h.1 hq, ht.2.1 A U H H1 h.2 hq⟩, fun A B U H h hAB => ⟨hs.2.2 A B U H h.1 hAB, ht.2.2 A B U H h.2 hAB⟩⟩
/-! contracts' starts: a reading method; a writing one; a static one -/
def fb_ok (D : va_G) (tys : List (ClassId × FieldType)) (B0 : Nat) (S : (Nat → Prop) → State → Heap → Prop) (w : va_W) (U : State) : Prop := va_P D vwCl w U.heap ∧ va_K D vwCl tys U ∧ S (fun q => B0 ≤ q) U U.heap
def fb_pm (D : va_G) (tys : List (ClassId × FieldType)) (B0 : Nat) (S : (Nat → Prop) → State → Heap → Prop) (w : va_W) (hz : Nat) (U : State) : Prop := U.heap.size = hz ∧ fb_ok D tys B0 S w U ∧ va_D (fun _ => True) w ∧ ∀ q, va_A w hz q → B0 ≤ q
def fb_os (B0 : Nat) (S : (Nat → Prop) → State → Heap → Prop) (U : State) : Prop := S (fun q => B0 ≤ q) U U.heap
theorem fb_ok_moved {D : va_G} {tys : List (ClassId × FieldType)} {B0 : Nat} {S : (Nat → Prop) → State → Heap → Prop} {w : va_W} {u U : State} (hSP : fb_SP S) (hh : U.heap = u.heap) (hvm : u.WarmedH U.vm) (h : fb_ok D tys B0 S w u) : fb_ok D tys B0 S w U := by
  obtain ⟨h1, h2, h3⟩ := h
  exact ⟨by rw [hh]; exact h1, h2.moved hvm.alike, by rw [hh]; exact hSP.1 _ _ _ _ hvm h3⟩
theorem fb_blindR {D : va_G} {tys : List (ClassId × FieldType)} {B0 : Nat} {S : (Nat → Prop) → State → Heap → Prop} {w : va_W} {As : List Value} (hSP : fb_SP S) : FrameBlind (va_Pc As (fb_ok D tys B0 S w)) := by
  intro a U g mk q
  exact ⟨q.1, fb_ok_moved (u := U) (U := U.calling g mk a) hSP rfl (State.WarmedH.refl U) q.2⟩
theorem fb_blindM {D : va_G} {tys : List (ClassId × FieldType)} {B0 : Nat} {S : (Nat → Prop) → State → Heap → Prop} {w : va_W} {hz : Nat} {As : List Value} (hSP : fb_SP S) : FrameBlind (va_Pc As (fb_pm D tys B0 S w hz)) := by
  intro a U g mk q
  exact ⟨q.1, q.2.1, fb_ok_moved (u := U) (U := U.calling g mk a) hSP rfl (State.WarmedH.refl U) q.2.2.1, q.2.2.2⟩
theorem fb_blindS {B0 : Nat} {S : (Nat → Prop) → State → Heap → Prop} {As : List Value} (hSP : fb_SP S) : FrameBlind (va_Pc As (fb_os B0 S)) := by
  intro a U g mk q
  exact ⟨q.1, hSP.1 _ U (U.calling g mk a) _ (State.WarmedH.refl U) q.2⟩
section FB
variable {D : va_G} {tys : List (ClassId × FieldType)} {B0 : Nat} {S : (Nat → Prop) → State → Heap → Prop} {w : va_W} {s : State} {H : Heap} {locs : List Loc} {A : Nat → Prop}
theorem fb_stH (hSP : fb_SP S) (hZ : S (fun q => B0 ≤ q) s s.heap) (hS : va_S A s.heap H locs) (hAB : ∀ q, A q → B0 ≤ q) : S (fun q => B0 ≤ q) s H :=
  hSP.2.1 _ _ _ _ hZ (fun a h1 h2 => hS.2.1 a h1 (fun z => h2 (hAB a z)))
theorem fb_preR (hSP : fb_SP S) (hP : va_P D vwCl w H) (hK : va_K D vwCl tys s) (hZ : S (fun q => B0 ≤ q) s s.heap) (hS : va_S A s.heap H locs) (hAB : ∀ q, A q → B0 ≤ q) (U : State) (hU : U.heap = H) (hW : s.WarmedH U.vm) : fb_ok D tys B0 S w U :=
  ⟨by rw [hU]; exact hP, hK.moved hW.alike, by rw [hU]; exact hSP.1 _ _ _ _ hW (fb_stH hSP hZ hS hAB)⟩
theorem fb_preVR {b ci : Nat} {q : vw_C} {fs : List Value} (hSP : fb_SP S) (hP : va_P D vwCl w H) (hK : va_K D vwCl tys s) (hZ : S (fun q => B0 ≤ q) s s.heap) (hS : va_S A s.heap H locs) (hAB : ∀ q, A q → B0 ≤ q) (hc : vwCl[ci]? = some q) (he : w[0]? = some (b, .inr (ci, fs))) (As : List Value) : PreV s H q.1 b (va_Pc (.ref b :: As) (fb_ok D tys B0 S w)) As :=
  ⟨fb_blindR hSP, va_recv hK hP hc he, fun U hU hW => ⟨rfl, fb_preR hSP hP hK hZ hS hAB U hU hW⟩⟩
theorem fb_preVM {b ci : Nat} {q : vw_C} {fs : List Value} (hSP : fb_SP S) (hP : va_P D vwCl w H) (hK : va_K D vwCl tys s) (hD : va_D A w) (hZ : S (fun q => B0 ≤ q) s s.heap) (hS : va_S A s.heap H locs) (hAB : ∀ q, A q → B0 ≤ q) (hA : ∀ q, s.heap.size ≤ q → A q) (hc : vwCl[ci]? = some q) (he : w[0]? = some (b, .inr (ci, fs))) (As : List Value) : PreV s H q.1 b (va_Pc (.ref b :: As) (fb_pm D tys B0 S w H.size)) As := by
  refine ⟨fb_blindM hSP, va_recv hK hP hc he, fun U hU hW => ⟨rfl, by rw [hU], fb_preR hSP hP hK hZ hS hAB U hU hW, hD.weaken (fun _ _ _ _ => trivial), fun q hq => ?_⟩⟩
  rcases hq with ⟨k, e, hk⟩ | hq
  · exact hAB q (hD.2 k _ hk)
  · exact hAB q (hA q (Nat.le_trans hS.1 hq))
theorem fb_preS (hSP : fb_SP S) (hZ : S (fun q => B0 ≤ q) s s.heap) (hS : va_S A s.heap H locs) (hAB : ∀ q, A q → B0 ≤ q) (As : List Value) : PreS s H (va_Pc As (fb_os B0 S)) As :=
  ⟨fb_blindS hSP, fun U hU hW => ⟨rfl, by show S _ U U.heap; rw [hU]; exact hSP.1 _ _ _ _ hW (fb_stH hSP hZ hS hAB)⟩⟩
end FB
/-! ends: of a reading method with a long; of a writing method -/
def fb_ql (r : Int64) : Array Value → State → Outcome → State → Prop := fun _ st o t => o = .returned (some (.long r)) ∧ t.heap = st.heap
def fb_qM (ov : Nat → Option Value) (w1 : Nat → va_W) (D : va_G) (A : Nat → Prop) : Array Value → State → Outcome → State → Prop := fun _ st oc t => (∃ q : Nat, oc = .returned (ov q) ∧ va_P D vwCl (w1 q) t.heap ∧ va_D A (w1 q)) ∧ va_F A st t
section FBC
variable {p : Program} {l : Launch} {e : Env} {R : Room} {s : State} {m : MethodId} {args : Array Value} {below : List Frame} {meth : Method} {c : Code} {H : Heap} {locs : List Loc} {cells slots mc ms : Nat} {Q : State → Prop}
variable {pc : Nat} {ls : Array Slot} {rest st0 : List Value} {a : Array Value} {A0 A1 : Nat → Prop} {H0 : Heap} {free : Addr → Prop} {D : va_G}
theorem fb_callR {r : Int32} (hr : CallRun p l e R s m args below meth c H locs cells slots 0 0 (F0 m pc ls st0) rest (QcRead r a) (fun _ => False)) (kk : W p l e R s m args below meth c H locs cells slots Q (F0 m (pc + 3) ls (.int r :: rest))) : W p l e R s m args below meth c H locs cells slots Q (F0 m pc ls st0) := W.callR hr kk
theorem fb_callM {ov : Nat → Option Value} {w1 : Nat → va_W} (hr : va_Run p l e R s m args below meth c H locs cells slots mc ms (F0 m pc ls st0) rest (fb_qM ov w1 D A1 a) free) (hS : va_S A0 H0 H locs) (hA : ∀ q, q < H.size → A1 q → A0 q) (hf : ∀ q, free q → A0 q)
    (kk : ∀ (q : Nat) (H1 : Heap) (locs1 : List Loc), va_P D vwCl (w1 q) H1 → va_D A1 (w1 q) → H.size ≤ H1.size → (∀ x : Nat, x < H.size → ¬ A1 x → H1[x]? = H[x]?) → va_S A0 H0 H1 locs1 → W p l e R s m args below meth c H1 locs1 (cells + mc) (slots + ms) Q (F0 m (pc + 3) ls ((ov q).toList ++ rest))) : W p l e R s m args below meth c H locs cells slots Q (F0 m pc ls st0) := by
  intro T hT X
  obtain ⟨v, st₀, t, T', L, h0, X', hL, e1, e2, ⟨⟨q, hv, hp, hd⟩, hz, hk⟩, st⟩ := hr T hT X
  cases hv
  rw [h0] at hz hk
  obtain ⟨t2, a1, b1⟩ := kk q T'.heap (locs ++ L) (by rw [e1]; exact hp) hd (by rw [e1]; exact hz) (fun q h1 h2 => by rw [e1]; exact hk q h1 h2)
    ⟨Nat.le_trans hS.1 (by rw [e1]; exact hz), fun q h1 h2 => by rw [e1, hk q (Nat.lt_of_lt_of_le h1 hS.1) (fun z => h2 (hA q (Nat.lt_of_lt_of_le h1 hS.1) z))]; exact hS.2.1 q h1 h2, fun q hq => by
      rcases List.mem_append.mp hq with h | h
      · exact hS.2.2 q h
      · exact hf _ (hL q h)⟩ T' rfl X'
  exact ⟨t2, st t2 a1, b1⟩
end FBC
/-! the class of int arrays is one class -/
theorem fb_cA {D : va_G} {cl : List vw_C} {cI cA : ClassId} {s : State} (h : va_K D cl ([(cI, .int)] ++ [(cA, .int)]) s) : cI = cA := by
  have h1 := (h.2 0 _ rfl).2
  have h2 := (h.2 1 _ rfl).2
  exact Option.some.inj (h1.symm.trans h2)
/-! what a throwing method asks of its start, and says at its end -/
def fb_Nw (w : Cond) : (Nat → Prop) → State → Heap → Prop := fun _ U _ => va_Nw w U
theorem fb_SP_C (C X : String) : fb_SP (fb_Nw (.castable C X)) := ⟨fun _ _ _ _ hW h => va_Nw.warmC hW h, fun _ _ _ _ h _ => h, fun _ _ _ _ h _ => h⟩
theorem fb_SP_D (x : MethodName) : fb_SP (fb_Nw (.declares x)) := ⟨fun _ _ _ _ hW h => va_Nw.warmD hW h, fun _ _ _ _ h _ => h, fun _ _ _ _ h _ => h⟩
def fb_Nc (C X : String) : (Nat → Prop) → State → Heap → Prop := fun _ U _ => va_Nc C X U
theorem fb_SP_Nc (C X : String) : fb_SP (fb_Nc C X) := ⟨fun _ _ _ _ hW h => h.moved hW.alike, fun _ _ _ _ h _ => h, fun _ _ _ _ h _ => h⟩
def fb_str (own : String) (k : Nat) (tx : String) : (Nat → Prop) → State → Heap → Prop := fun _ U _ => ∃ a : Nat, vk_R own k tx a U
theorem fb_SP_str (own : String) (k : Nat) (tx : String) : fb_SP (fb_str own k tx) := ⟨fun _ _ _ _ hW ⟨a, h⟩ => ⟨a, vk_R.warm hW h⟩, fun _ _ _ _ h _ => h, fun _ _ _ _ h _ => h⟩
theorem fb_SP_Zq (C n d : String) : fb_SP (vx_Zq C n d) := ⟨fun _ _ _ _ hW h => h.moved hW.alike, fun _ _ _ _ h hq => h.kept hq, fun _ _ _ _ h hAB => h.narrow hAB⟩
def fb_qT {ε ρ : Type} (res : Except ε ρ) (ov : ρ → Option Value) (w1 : ρ → va_W) (D : va_G) (A : Nat → Prop) : Array Value → State → Outcome → State → Prop := fun _ st oc t => ∃ v : ρ, res = .ok v ∧ (oc = .returned (ov v) ∧ va_P D vwCl (w1 v) t.heap ∧ va_D A (w1 v)) ∧ va_F A st t
def fb_xT {μ ρ : Type} (res : Except (String × μ) ρ) (w : String × μ → va_W) (D : va_G) (A : Nat → Prop) : String → State → State → Prop := fun E st t => ∃ x : String × μ, res = .error x ∧ x.1 = E ∧ va_P D vwCl (w x) t.heap ∧ va_D A (w x) ∧ va_F A st t
theorem fb_xend {μ ρ : Type} {res : Except (String × μ) ρ} {w : String × μ → va_W} {D : va_G} {A : Nat → Prop} {E : String} {s : State} {H : Heap} {locs : List Loc} {x : String × μ} (hres : res = .error x) (hE : x.1 = E) (hP : va_P D vwCl (w x) H) (hD : va_D A (w x)) (hS : va_S A s.heap H locs) (t : State) (hz : H.size ≤ t.heap.size) (hk : ∀ q : Nat, q < H.size → t.heap[q]? = H[q]?) : fb_xT res w D A E s t :=
  ⟨x, hres, hE, hP.kept (fun k q hq => hk q.1 (vx_lt hP hq)), hD, Nat.le_trans hS.1 hz, fun q h1 h2 => (hk q (Nat.lt_of_lt_of_le h1 hS.1)).trans (hS.2.1 q h1 h2)⟩
end
section
/-! what a state of the class and of the reference is: the cells of each, by the numbers that they hold; their static arrays -/
abbrev fb_tX0_LOWEST : Nat → Int32 := fb_tab [0, 5, 8, 12]
abbrev fb_tX0_HIGHEST : Nat → Int32 := fb_tab [13, 14, 18, 22]
abbrev fb_tX0_FIGURE_STEPS : Nat → Int32 := fb_tab [21, 37, 41, 85, 25, 53]
abbrev fb_tX0_MAJOR : Nat → Int32 := fb_tab [0, 2, 4, 5, 7, 9, 11]
abbrev fb_tX0_MINOR : Nat → Int32 := fb_tab [0, 2, 3, 5, 7, 8, 11]
abbrev fb_wX0 (cI : ClassId) (h0 qf qn qw ql : Nat) (sz : Int32) (mi : Int32) (fg : Nat → Int32) (nt : Nat → Int32) (wt : Nat → Int32) (wl : Nat → Int32) : va_W := [(h0, .inr (0, [.int sz, .int mi, .ref qf, .ref qn, .ref qw, .ref ql])), (qf, .inl (cI, 12, .inl fg)), (qn, .inl (cI, 48, .inl nt)), (qw, .inl (cI, 8, .inl wt)), (ql, .inl (cI, 96, .inl wl))]
def fb_qX0i (D : va_G) (cI : ClassId) (h0 : Nat) (sz : Int32) (mi : Int32) (fg : Nat → Int32) (nt : Nat → Int32) (wt : Nat → Int32) (wl : Nat → Int32) (A : Nat → Prop) : Array Value → State → Outcome → State → Prop := fun _ st oc t => (∃ qf qn qw ql : Nat, oc = .returned none ∧ va_P D vwCl (fb_wX0 cI h0 qf qn qw ql sz mi fg nt wt wl) t.heap ∧ va_D A (fb_wX0 cI h0 qf qn qw ql sz mi fg nt wt wl)) ∧ va_F A st t
def fb_sX0 : (Nat → Prop) → State → Heap → Prop := fun A U H => fb_stA "FiguredBass" "LOWEST" 4 fb_tX0_LOWEST A U H ∧ fb_stA "FiguredBass" "HIGHEST" 4 fb_tX0_HIGHEST A U H ∧ fb_stA "FiguredBass" "FIGURE_STEPS" 6 fb_tX0_FIGURE_STEPS A U H ∧ fb_stA "FiguredBass" "MAJOR" 7 fb_tX0_MAJOR A U H ∧ fb_stA "FiguredBass" "MINOR" 7 fb_tX0_MINOR A U H
theorem fb_sX0p : fb_SP fb_sX0 := fb_SP_and (fb_SP_stA _ _ _ _) (fb_SP_and (fb_SP_stA _ _ _ _) (fb_SP_and (fb_SP_stA _ _ _ _) (fb_SP_and (fb_SP_stA _ _ _ _) (fb_SP_stA _ _ _ _))))
abbrev fb_tX1_LOW : Nat → Int32 := fb_tab [0, 5, 8, 12]
abbrev fb_tX1_HIGH : Nat → Int32 := fb_tab [13, 14, 18, 22]
abbrev fb_tX1_STEPS : Nat → Int32 := fb_tab [20, 36, 40, 84, 24, 52]
abbrev fb_tX1_MAJOR : Nat → Int32 := fb_tab [0, 2, 4, 5, 7, 9, 11]
abbrev fb_tX1_MINOR : Nat → Int32 := fb_tab [0, 2, 3, 5, 7, 8, 11]
abbrev fb_wX1 (cI : ClassId) (h0 qn qf qw : Nat) (th : Int32) (ch : Int32) (nt : Nat → Int32) (fg : Nat → Int32) (wt : Nat → Int32) (mi : Int32) : va_W := [(h0, .inr (1, [.int th, .int ch, .ref qn, .ref qf, .ref qw, .int mi])), (qn, .inl (cI, 48, .inl nt)), (qf, .inl (cI, 12, .inl fg)), (qw, .inl (cI, 8, .inl wt))]
def fb_qX1i (D : va_G) (cI : ClassId) (h0 : Nat) (th : Int32) (ch : Int32) (nt : Nat → Int32) (fg : Nat → Int32) (wt : Nat → Int32) (mi : Int32) (A : Nat → Prop) : Array Value → State → Outcome → State → Prop := fun _ st oc t => (∃ qn qf qw : Nat, oc = .returned none ∧ va_P D vwCl (fb_wX1 cI h0 qn qf qw th ch nt fg wt mi) t.heap ∧ va_D A (fb_wX1 cI h0 qn qf qw th ch nt fg wt mi)) ∧ va_F A st t
def fb_sX1 : (Nat → Prop) → State → Heap → Prop := fun A U H => fb_stA "FiguredBassModel" "LOW" 4 fb_tX1_LOW A U H ∧ fb_stA "FiguredBassModel" "HIGH" 4 fb_tX1_HIGH A U H ∧ fb_stA "FiguredBassModel" "STEPS" 6 fb_tX1_STEPS A U H ∧ fb_stA "FiguredBassModel" "MAJOR" 7 fb_tX1_MAJOR A U H ∧ fb_stA "FiguredBassModel" "MINOR" 7 fb_tX1_MINOR A U H
theorem fb_sX1p : fb_SP fb_sX1 := fb_SP_and (fb_SP_stA _ _ _ _) (fb_SP_and (fb_SP_stA _ _ _ _) (fb_SP_and (fb_SP_stA _ _ _ _) (fb_SP_and (fb_SP_stA _ _ _ _) (fb_SP_stA _ _ _ _))))
/-- what the class and the reference ask of the statics, and what a throw asks -/
def fb_sE : (Nat → Prop) → State → Heap → Prop := fun A U H => vx_Zq Bundle.tN "UNASSIGNED_STACK" Bundle.steD A U H ∧ vx_Zq Bundle.tN "SUPPRESSED_SENTINEL" Bundle.listD A U H ∧ fb_Nw (.declares (Bundle.initS "java/lang/RuntimeException")) A U H ∧ fb_Nw (.declares (Bundle.initS "java/lang/Exception")) A U H ∧ fb_Nw (.declares (Bundle.initS "java/lang/Throwable")) A U H ∧ fb_Nw (.castable "java/lang/IllegalArgumentException" "java/lang/IllegalArgumentException") A U H ∧ fb_Nw (.castable "java/lang/IllegalStateException" "java/lang/IllegalStateException") A U H ∧ fb_Nw (.castable "java/lang/IndexOutOfBoundsException" "java/lang/IndexOutOfBoundsException") A U H ∧ fb_Nc "java/lang/IllegalArgumentException" "java/lang/IllegalStateException" A U H ∧ fb_Nc "java/lang/IllegalArgumentException" "java/lang/IndexOutOfBoundsException" A U H ∧ fb_Nc "java/lang/IllegalStateException" "java/lang/IllegalArgumentException" A U H ∧ fb_Nc "java/lang/IllegalStateException" "java/lang/IndexOutOfBoundsException" A U H ∧ fb_Nc "java/lang/IndexOutOfBoundsException" "java/lang/IllegalArgumentException" A U H ∧ fb_Nc "java/lang/IndexOutOfBoundsException" "java/lang/IllegalStateException" A U H ∧ fb_str RX0 36 "the bass is not 0 to 13" A U H ∧ fb_str RX0 45 "the figure is not 0 to 5" A U H ∧ fb_str RX0 49 "there are 12 chords" A U H ∧ fb_str RX0 61 "there is no such chord" A U H ∧ fb_str RX0 71 "there is no such chord or upper voice" A U H ∧ fb_str RX0 73 "the note is none of this voice" A U H ∧ fb_str RX0 75 "there is no chord" A U H ∧ fb_str RX0 80 "the fault is not 0 to 7" A U H ∧ fb_str RX0 82 "the weight is not 0 to 9" A U H ∧ fb_str RX0 88 "there are no notes by which the chord is right" A U H ∧ fb_str RX0 97 "there is no such chord or voice" A U H ∧ fb_str RX0 103 "there is no such chord, or what is not 0 to 5" A U H ∧ fb_str RX0 108 "there is no such chord, or the fault is not 0 to 7" A U H ∧ fb_str RX0 113 "what is not 0 to 6" A U H ∧ fb_str RX0 121 "the note is not 0 to 27" A U H
theorem fb_sEp : fb_SP fb_sE := fb_SP_and (fb_SP_Zq _ _ _) (fb_SP_and (fb_SP_Zq _ _ _) (fb_SP_and (fb_SP_D _) (fb_SP_and (fb_SP_D _) (fb_SP_and (fb_SP_D _) (fb_SP_and (fb_SP_C _ _) (fb_SP_and (fb_SP_C _ _) (fb_SP_and (fb_SP_C _ _) (fb_SP_and (fb_SP_Nc _ _) (fb_SP_and (fb_SP_Nc _ _) (fb_SP_and (fb_SP_Nc _ _) (fb_SP_and (fb_SP_Nc _ _) (fb_SP_and (fb_SP_Nc _ _) (fb_SP_and (fb_SP_Nc _ _) (fb_SP_and (fb_SP_str _ _ _) (fb_SP_and (fb_SP_str _ _ _) (fb_SP_and (fb_SP_str _ _ _) (fb_SP_and (fb_SP_str _ _ _) (fb_SP_and (fb_SP_str _ _ _) (fb_SP_and (fb_SP_str _ _ _) (fb_SP_and (fb_SP_str _ _ _) (fb_SP_and (fb_SP_str _ _ _) (fb_SP_and (fb_SP_str _ _ _) (fb_SP_and (fb_SP_str _ _ _) (fb_SP_and (fb_SP_str _ _ _) (fb_SP_and (fb_SP_str _ _ _) (fb_SP_and (fb_SP_str _ _ _) (fb_SP_and (fb_SP_str _ _ _) (fb_SP_str _ _ _))))))))))))))))))))))))))))
def fb_sXT : (Nat → Prop) → State → Heap → Prop := fun A U H => fb_sX0 A U H ∧ fb_sE A U H
theorem fb_sXTp : fb_SP fb_sXT := fb_SP_and fb_sX0p fb_sEp
section FBS
variable {A : Nat → Prop} {U : State} {H : Heap}
theorem fb_u1 (h : fb_sXT A U H) : vx_Zq Bundle.tN "UNASSIGNED_STACK" Bundle.steD A U H := h.2.1
theorem fb_u2 (h : fb_sXT A U H) : vx_Zq Bundle.tN "SUPPRESSED_SENTINEL" Bundle.listD A U H := h.2.2.1
theorem fb_ca_IllegalArgumentException (h : fb_sXT A U H) {a : Array Value} : (Cond.castable "java/lang/IllegalArgumentException" "java/lang/IllegalArgumentException").before a U = true := va_Nw.use rfl h.2.2.2.2.2.2.1
theorem fb_ca_IllegalStateException (h : fb_sXT A U H) {a : Array Value} : (Cond.castable "java/lang/IllegalStateException" "java/lang/IllegalStateException").before a U = true := va_Nw.use rfl h.2.2.2.2.2.2.2.1
theorem fb_ca_IndexOutOfBoundsException (h : fb_sXT A U H) {a : Array Value} : (Cond.castable "java/lang/IndexOutOfBoundsException" "java/lang/IndexOutOfBoundsException").before a U = true := va_Nw.use rfl h.2.2.2.2.2.2.2.2.1
theorem fb_nc_IllegalArgumentException_IllegalStateException (h : fb_sXT A U H) : va_Nc "java/lang/IllegalArgumentException" "java/lang/IllegalStateException" U := h.2.2.2.2.2.2.2.2.2.1
theorem fb_nc_IllegalArgumentException_IndexOutOfBoundsException (h : fb_sXT A U H) : va_Nc "java/lang/IllegalArgumentException" "java/lang/IndexOutOfBoundsException" U := h.2.2.2.2.2.2.2.2.2.2.1
theorem fb_nc_IllegalStateException_IllegalArgumentException (h : fb_sXT A U H) : va_Nc "java/lang/IllegalStateException" "java/lang/IllegalArgumentException" U := h.2.2.2.2.2.2.2.2.2.2.2.1
theorem fb_nc_IllegalStateException_IndexOutOfBoundsException (h : fb_sXT A U H) : va_Nc "java/lang/IllegalStateException" "java/lang/IndexOutOfBoundsException" U := h.2.2.2.2.2.2.2.2.2.2.2.2.1
theorem fb_nc_IndexOutOfBoundsException_IllegalArgumentException (h : fb_sXT A U H) : va_Nc "java/lang/IndexOutOfBoundsException" "java/lang/IllegalArgumentException" U := h.2.2.2.2.2.2.2.2.2.2.2.2.2.1
theorem fb_nc_IndexOutOfBoundsException_IllegalStateException (h : fb_sXT A U H) : va_Nc "java/lang/IndexOutOfBoundsException" "java/lang/IllegalStateException" U := h.2.2.2.2.2.2.2.2.2.2.2.2.2.2.1
theorem fb_str36 (h : fb_sXT A U H) : ∃ a : Nat, vk_R RX0 36 "the bass is not 0 to 13" a U := h.2.2.2.2.2.2.2.2.2.2.2.2.2.2.2.1
theorem fb_str45 (h : fb_sXT A U H) : ∃ a : Nat, vk_R RX0 45 "the figure is not 0 to 5" a U := h.2.2.2.2.2.2.2.2.2.2.2.2.2.2.2.2.1
theorem fb_str49 (h : fb_sXT A U H) : ∃ a : Nat, vk_R RX0 49 "there are 12 chords" a U := h.2.2.2.2.2.2.2.2.2.2.2.2.2.2.2.2.2.1
theorem fb_str61 (h : fb_sXT A U H) : ∃ a : Nat, vk_R RX0 61 "there is no such chord" a U := h.2.2.2.2.2.2.2.2.2.2.2.2.2.2.2.2.2.2.1
theorem fb_str71 (h : fb_sXT A U H) : ∃ a : Nat, vk_R RX0 71 "there is no such chord or upper voice" a U := h.2.2.2.2.2.2.2.2.2.2.2.2.2.2.2.2.2.2.2.1
theorem fb_str73 (h : fb_sXT A U H) : ∃ a : Nat, vk_R RX0 73 "the note is none of this voice" a U := h.2.2.2.2.2.2.2.2.2.2.2.2.2.2.2.2.2.2.2.2.1
theorem fb_str75 (h : fb_sXT A U H) : ∃ a : Nat, vk_R RX0 75 "there is no chord" a U := h.2.2.2.2.2.2.2.2.2.2.2.2.2.2.2.2.2.2.2.2.2.1
theorem fb_str80 (h : fb_sXT A U H) : ∃ a : Nat, vk_R RX0 80 "the fault is not 0 to 7" a U := h.2.2.2.2.2.2.2.2.2.2.2.2.2.2.2.2.2.2.2.2.2.2.1
theorem fb_str82 (h : fb_sXT A U H) : ∃ a : Nat, vk_R RX0 82 "the weight is not 0 to 9" a U := h.2.2.2.2.2.2.2.2.2.2.2.2.2.2.2.2.2.2.2.2.2.2.2.1
theorem fb_str88 (h : fb_sXT A U H) : ∃ a : Nat, vk_R RX0 88 "there are no notes by which the chord is right" a U := h.2.2.2.2.2.2.2.2.2.2.2.2.2.2.2.2.2.2.2.2.2.2.2.2.1
theorem fb_str97 (h : fb_sXT A U H) : ∃ a : Nat, vk_R RX0 97 "there is no such chord or voice" a U := h.2.2.2.2.2.2.2.2.2.2.2.2.2.2.2.2.2.2.2.2.2.2.2.2.2.1
theorem fb_str103 (h : fb_sXT A U H) : ∃ a : Nat, vk_R RX0 103 "there is no such chord, or what is not 0 to 5" a U := h.2.2.2.2.2.2.2.2.2.2.2.2.2.2.2.2.2.2.2.2.2.2.2.2.2.2.1
theorem fb_str108 (h : fb_sXT A U H) : ∃ a : Nat, vk_R RX0 108 "there is no such chord, or the fault is not 0 to 7" a U := h.2.2.2.2.2.2.2.2.2.2.2.2.2.2.2.2.2.2.2.2.2.2.2.2.2.2.2.1
theorem fb_str113 (h : fb_sXT A U H) : ∃ a : Nat, vk_R RX0 113 "what is not 0 to 6" a U := h.2.2.2.2.2.2.2.2.2.2.2.2.2.2.2.2.2.2.2.2.2.2.2.2.2.2.2.2.1
theorem fb_str121 (h : fb_sXT A U H) : ∃ a : Nat, vk_R RX0 121 "the note is not 0 to 27" a U := h.2.2.2.2.2.2.2.2.2.2.2.2.2.2.2.2.2.2.2.2.2.2.2.2.2.2.2.2.2
def fb_bad (X : String) : List Cond := [.castable X X, .declares (Bundle.initS "java/lang/RuntimeException"), .declares (Bundle.initS "java/lang/Exception"), .declares (Bundle.initS "java/lang/Throwable")]
theorem fb_badok_IllegalArgumentException (h : fb_sXT A U H) {a : Array Value} : ∀ w ∈ fb_bad "java/lang/IllegalArgumentException", w.before a U = true := vx_c (fb_ca_IllegalArgumentException h) (vx_c (va_Nw.use rfl h.2.2.2.1) (vx_c (va_Nw.use rfl h.2.2.2.2.1) (vx_c (va_Nw.use rfl h.2.2.2.2.2.1) vx_n)))
theorem fb_badok_IllegalStateException (h : fb_sXT A U H) {a : Array Value} : ∀ w ∈ fb_bad "java/lang/IllegalStateException", w.before a U = true := vx_c (fb_ca_IllegalStateException h) (vx_c (va_Nw.use rfl h.2.2.2.1) (vx_c (va_Nw.use rfl h.2.2.2.2.1) (vx_c (va_Nw.use rfl h.2.2.2.2.2.1) vx_n)))
theorem fb_badok_IndexOutOfBoundsException (h : fb_sXT A U H) {a : Array Value} : ∀ w ∈ fb_bad "java/lang/IndexOutOfBoundsException", w.before a U = true := vx_c (fb_ca_IndexOutOfBoundsException h) (vx_c (va_Nw.use rfl h.2.2.2.1) (vx_c (va_Nw.use rfl h.2.2.2.2.1) (vx_c (va_Nw.use rfl h.2.2.2.2.2.1) vx_n)))
end FBS
end
section
/-! What each method computes, printed by wip/whole/gen.py out of the bytecode. -/
def lpX0_init_48 : Nat → (Int32) → (Nat → Int32) → Option (Int32 × (Nat → Int32))
  | 0, _, _ => none
  | n + 1, v6, f7 =>
    if 8 ≤ v6 then
    some (v6, f7)
  else
    fb_ck (fb_ix v6 8) (
    lpX0_init_48 n (v6 + 1) (upd f7 v6.toNatClampNeg 2))
def fX0_init  : Option (Int32 × Int32 × (Nat → Int32) × (Nat → Int32) × (Nat → Int32) × (Nat → Int32)) :=
  fb_b2 (lpX0_init_48 14 0 (fun _ => 0)) (fun o10 o11 =>
  some (0, 0, (fun _ => 0), (fun _ => 0), o11, (fun _ => 0)))
def fX0_isNoteOf (a1 : Int32) (a2 : Int32) : Option (Int32) :=
  fb_ck (fb_ix a1 4) (
  if a2 < (fb_tX0_LOWEST a1.toNatClampNeg) then
    some 0
  else
    if (fb_tX0_HIGHEST a1.toNatClampNeg) < a2 then
      some 0
    else
      some 1)
def fX0_isFigure (a1 : Int32) : Option (Int32) :=
  if a1 < 0 then
    some 0
  else
    if 6 ≤ a1 then
      some 0
    else
      some 1
def fX0_putNotes (sz : Int32) (mi : Int32) (fg : Nat → Int32) (nt : Nat → Int32) (wt : Nat → Int32) (wl : Nat → Int32) (a1 : Int32) (a2 : Int32) (a3 : Int32) (a4 : Int32) : Option ((Nat → Int32)) :=
  fb_ck (fb_ix ((a1 * 4) + 1) 48) (
  fb_ck (fb_ix ((a1 * 4) + 2) 48) (
  fb_ck (fb_ix ((a1 * 4) + 3) 48) (
  some (upd (upd (upd nt ((a1 * 4) + 1).toNatClampNeg a2) ((a1 * 4) + 2).toNatClampNeg a3) ((a1 * 4) + 3).toNatClampNeg a4))))
def fX0_chord (sz : Int32) (mi : Int32) (fg : Nat → Int32) (nt : Nat → Int32) (wt : Nat → Int32) (wl : Nat → Int32) (a1 : Int32) (a2 : Int32) : Option (Except (String × Int32 × (Nat → Int32) × (Nat → Int32)) (Int32 × Int32 × (Nat → Int32) × (Nat → Int32))) :=
  fb_b1 (fX0_isNoteOf 0 a1) (fun r2 =>
  if r2 = 0 then
    some (.error ("java/lang/IllegalArgumentException", (sz, fg, nt)))
  else
    fb_b1 (fX0_isFigure a2) (fun r5 =>
    if r5 = 0 then
      some (.error ("java/lang/IllegalArgumentException", (sz, fg, nt)))
    else
      if sz < 12 then
        fb_ck (fb_ix sz 12) (
        fb_ck (fb_ix (sz * 4) 48) (
        fb_b1 (fX0_putNotes (sz + 1) mi (upd fg sz.toNatClampNeg a2) (upd nt (sz * 4).toNatClampNeg a1) wt wl sz (-1) (-1) (-1)) (fun nt_11 =>
        some (.ok (sz, sz + 1, upd fg sz.toNatClampNeg a2, nt_11)))))
      else
        some (.error ("java/lang/IllegalStateException", (sz, fg, nt)))))
def fX0_isChord (sz : Int32) (mi : Int32) (fg : Nat → Int32) (nt : Nat → Int32) (wt : Nat → Int32) (wl : Nat → Int32) (a1 : Int32) : Option (Int32) :=
  if a1 < 0 then
    some 0
  else
    if sz ≤ a1 then
      some 0
    else
      some 1
def fX0_exchangeNote (sz : Int32) (mi : Int32) (fg : Nat → Int32) (nt : Nat → Int32) (wt : Nat → Int32) (wl : Nat → Int32) (a1 : Int32) (a2 : Int32) (a3 : Int32) : Option (Int32 × (Nat → Int32)) :=
  fb_ck (fb_ix ((a1 * 4) + a2) 48) (
  some (nt ((a1 * 4) + a2).toNatClampNeg, upd nt ((a1 * 4) + a2).toNatClampNeg a3))
def fX0_setBass (sz : Int32) (mi : Int32) (fg : Nat → Int32) (nt : Nat → Int32) (wt : Nat → Int32) (wl : Nat → Int32) (a1 : Int32) (a2 : Int32) : Option (Except (String × (Nat → Int32)) (Int32 × (Nat → Int32))) :=
  fb_b1 (fX0_isChord sz mi fg nt wt wl a1) (fun r2 =>
  if r2 = 0 then
    some (.error ("java/lang/IndexOutOfBoundsException", nt))
  else
    fb_b1 (fX0_isNoteOf 0 a2) (fun r5 =>
    if r5 = 0 then
      some (.error ("java/lang/IllegalArgumentException", nt))
    else
      fb_b2 (fX0_exchangeNote sz mi fg nt wt wl a1 0 a2) (fun r8 nt_9 =>
      some (.ok (r8, nt_9)))))
def fX0_setFigure (sz : Int32) (mi : Int32) (fg : Nat → Int32) (nt : Nat → Int32) (wt : Nat → Int32) (wl : Nat → Int32) (a1 : Int32) (a2 : Int32) : Option (Except (String × (Nat → Int32)) (Int32 × (Nat → Int32))) :=
  fb_b1 (fX0_isChord sz mi fg nt wt wl a1) (fun r2 =>
  if r2 = 0 then
    some (.error ("java/lang/IndexOutOfBoundsException", fg))
  else
    fb_b1 (fX0_isFigure a2) (fun r5 =>
    if r5 = 0 then
      some (.error ("java/lang/IllegalArgumentException", fg))
    else
      fb_ck (fb_ix a1 12) (
      some (.ok (fg a1.toNatClampNeg, upd fg a1.toNatClampNeg a2)))))
def fX0_isUpperVoice (a1 : Int32) : Option (Int32) :=
  if a1 < 1 then
    some 0
  else
    if 3 < a1 then
      some 0
    else
      some 1
def fX0_put (sz : Int32) (mi : Int32) (fg : Nat → Int32) (nt : Nat → Int32) (wt : Nat → Int32) (wl : Nat → Int32) (a1 : Int32) (a2 : Int32) (a3 : Int32) : Option (Except (String × (Nat → Int32)) (Int32 × (Nat → Int32))) :=
  fb_b1 (fX0_isChord sz mi fg nt wt wl a1) (fun r2 =>
  if r2 = 0 then
    some (.error ("java/lang/IndexOutOfBoundsException", nt))
  else
    fb_b1 (fX0_isUpperVoice a2) (fun r5 =>
    if r5 = 0 then
      some (.error ("java/lang/IndexOutOfBoundsException", nt))
    else
      if a3 = (-1) then
        fb_b2 (fX0_exchangeNote sz mi fg nt wt wl a1 a2 a3) (fun r9 nt_10 =>
        some (.ok (r9, nt_10)))
      else
        fb_b1 (fX0_isNoteOf a2 a3) (fun r13 =>
        if r13 = 0 then
          some (.error ("java/lang/IllegalArgumentException", nt))
        else
          fb_b2 (fX0_exchangeNote sz mi fg nt wt wl a1 a2 a3) (fun r16 nt_17 =>
          some (.ok (r16, nt_17))))))
def fX0_drop (sz : Int32) (mi : Int32) (fg : Nat → Int32) (nt : Nat → Int32) (wt : Nat → Int32) (wl : Nat → Int32) : Option (Except (String × Int32) (Int32 × Int32)) :=
  if 0 < sz then
    some (.ok (sz - 1, sz - 1))
  else
    some (.error ("java/lang/IllegalStateException", sz))
def fX0_setKey (sz : Int32) (mi : Int32) (fg : Nat → Int32) (nt : Nat → Int32) (wt : Nat → Int32) (wl : Nat → Int32) (a1 : Int32) : Option (Int32 × Int32) :=
  fb_ck (fb_z a1) (
  fb_ck (fb_z mi) (some (mi, a1)))
def fX0_isFault (a1 : Int32) : Option (Int32) :=
  if a1 < 0 then
    some 0
  else
    if 8 ≤ a1 then
      some 0
    else
      some 1
def fX0_setWeight (sz : Int32) (mi : Int32) (fg : Nat → Int32) (nt : Nat → Int32) (wt : Nat → Int32) (wl : Nat → Int32) (a1 : Int32) (a2 : Int32) : Option (Except (String × (Nat → Int32)) (Int32 × (Nat → Int32))) :=
  fb_b1 (fX0_isFault a1) (fun r2 =>
  if r2 = 0 then
    some (.error ("java/lang/IndexOutOfBoundsException", wt))
  else
    if a2 < 0 then
      some (.error ("java/lang/IllegalArgumentException", wt))
    else
      if a2 ≤ 9 then
        fb_ck (fb_ix a1 8) (
        some (.ok (wt a1.toNatClampNeg, upd wt a1.toNatClampNeg a2)))
      else
        some (.error ("java/lang/IllegalArgumentException", wt)))
def fX0_noteAt (sz : Int32) (mi : Int32) (fg : Nat → Int32) (nt : Nat → Int32) (wt : Nat → Int32) (wl : Nat → Int32) (a1 : Int32) (a2 : Int32) : Option (Int32) :=
  fb_ck (fb_ix ((a1 * 4) + a2) 48) (
  some (nt ((a1 * 4) + a2).toNatClampNeg))
def fX0_stepAbove (a1 : Int32) (a2 : Int32) : Option (Int32) :=
  if 0 ≤ ((a2 - a1) - (a2 - a1) / 7 * 7) then
    some ((a2 - a1) - (a2 - a1) / 7 * 7)
  else
    some (((a2 - a1) - (a2 - a1) / 7 * 7) + 7)
def fX0_belongs (sz : Int32) (mi : Int32) (fg : Nat → Int32) (nt : Nat → Int32) (wt : Nat → Int32) (wl : Nat → Int32) (a1 : Int32) (a2 : Int32) : Option (Int32) :=
  fb_b1 (fX0_noteAt sz mi fg nt wt wl a1 0) (fun r2 =>
  fb_b1 (fX0_stepAbove r2 a2) (fun r4 =>
  fb_ck (fb_ix a1 12) (
  fb_ck (fb_ix (fg a1.toNatClampNeg) 6) (
  if ((fb_tX0_FIGURE_STEPS (fg a1.toNatClampNeg).toNatClampNeg) &&& ((1 : Int32) <<< (r4 &&& 31))) = 0 then
    some 0
  else
    some 1))))
def fX0_isRightWith (sz : Int32) (mi : Int32) (fg : Nat → Int32) (nt : Nat → Int32) (wt : Nat → Int32) (wl : Nat → Int32) (a1 : Int32) (a2 : Int32) (a3 : Int32) (a4 : Int32) : Option (Int32) :=
  fb_b1 (fX0_noteAt sz mi fg nt wt wl a1 0) (fun r2 =>
  if a2 < r2 then
    some 0
  else
    if a3 < a2 then
      some 0
    else
      if a3 ≤ a4 then
        fb_b1 (fX0_stepAbove r2 a2) (fun r9 =>
        fb_b1 (fX0_stepAbove r2 a3) (fun r11 =>
        fb_b1 (fX0_stepAbove r2 a4) (fun r13 =>
        fb_ck (fb_ix a1 12) (
        fb_ck (fb_ix (fg a1.toNatClampNeg) 6) (
        if ((((1 : Int32) ||| ((1 : Int32) <<< (r9 &&& 31))) ||| ((1 : Int32) <<< (r11 &&& 31))) ||| ((1 : Int32) <<< (r13 &&& 31))) = (fb_tX0_FIGURE_STEPS (fg a1.toNatClampNeg).toNatClampNeg) then
          some 1
        else
          some 0)))))
      else
        some 0)
def lpX0_listSopranos_15 (a1 : Int32) (a2 : Int32) (a3 : Int32) (sz : Int32) (mi : Int32) (fg : Nat → Int32) (nt : Nat → Int32) (wt : Nat → Int32) : Nat → (Int32) → (Int32) → (Nat → Int32) → Option (Int32 × Int32 × (Nat → Int32))
  | 0, _, _, _ => none
  | n + 1, v1, v2, wl_3 =>
    if (fb_tX0_HIGHEST (3 : Int32).toNatClampNeg) < v1 then
    some (v1, v2, wl_3)
  else
    fb_b1 (fX0_isRightWith sz mi fg nt wt wl_3 a1 a2 a3 v1) (fun r6 =>
    fb_b2 (if r6 = 0 then
        some (v2, wl_3)
      else
        if 96 ≤ v2 then
          some (v2, wl_3)
        else
          fb_ck (fb_ix v2 96) (
          some (v2 + 1, upd wl_3 v2.toNatClampNeg (((a2 * 784) + (a3 * 28)) + v1)))) (fun (j10 : Int32) (wl_11 : Nat → Int32) =>
    lpX0_listSopranos_15 a1 a2 a3 sz mi fg nt wt n (v1 + 1) j10 wl_11))
def fX0_listSopranos (sz : Int32) (mi : Int32) (fg : Nat → Int32) (nt : Nat → Int32) (wt : Nat → Int32) (wl : Nat → Int32) (a1 : Int32) (a2 : Int32) (a3 : Int32) (a4 : Int32) : Option (Int32 × (Nat → Int32)) :=
  fb_b3 (lpX0_listSopranos_15 a1 a2 a3 sz mi fg nt wt 14 (if a3 < (fb_tX0_LOWEST (3 : Int32).toNatClampNeg) then (fb_tX0_LOWEST (3 : Int32).toNatClampNeg) else a3) a4 wl) (fun o12 o13 o14 =>
  some (o13, o14))
def lpX0_listWays_37 (a1 : Int32) (sz : Int32) (mi : Int32) (fg : Nat → Int32) (nt : Nat → Int32) (wt : Nat → Int32) (v1 : Int32) : Nat → (Int32) → (Int32) → (Nat → Int32) → Option (Int32 × Int32 × (Nat → Int32))
  | 0, _, _, _ => none
  | n + 1, v8, v9, wl_10 =>
    if (fb_tX0_HIGHEST (2 : Int32).toNatClampNeg) < v8 then
    some (v8, v9, wl_10)
  else
    fb_b1 (fX0_belongs sz mi fg nt wt wl_10 a1 v8) (fun r13 =>
    fb_b2 (if r13 = 0 then
        some (v9, wl_10)
      else
        fb_b2 (fX0_listSopranos sz mi fg nt wt wl_10 a1 v1 v8 v9) (fun r16 wl_17 =>
        some (r16, wl_17))) (fun (j18 : Int32) (wl_19 : Nat → Int32) =>
    lpX0_listWays_37 a1 sz mi fg nt wt v1 n (v8 + 1) j18 wl_19))
def lpX0_listWays_8 (a1 : Int32) (sz : Int32) (mi : Int32) (fg : Nat → Int32) (nt : Nat → Int32) (wt : Nat → Int32) : Nat → (Int32) → (Int32) → (Nat → Int32) → Option (Int32 × Int32 × (Nat → Int32))
  | 0, _, _, _ => none
  | n + 1, v1, v2, wl_3 =>
    if (fb_tX0_HIGHEST (1 : Int32).toNatClampNeg) < v1 then
    some (v1, v2, wl_3)
  else
    fb_b1 (fX0_belongs sz mi fg nt wt wl_3 a1 v1) (fun r6 =>
    fb_b2 (if r6 = 0 then
        some (v2, wl_3)
      else
        fb_b3 (lpX0_listWays_37 a1 sz mi fg nt wt v1 14 (if v1 < (fb_tX0_LOWEST (2 : Int32).toNatClampNeg) then (fb_tX0_LOWEST (2 : Int32).toNatClampNeg) else v1) v2 wl_3) (fun o20 o21 o22 =>
        some (o21, o22))) (fun (j24 : Int32) (wl_25 : Nat → Int32) =>
    lpX0_listWays_8 a1 sz mi fg nt wt n (v1 + 1) j24 wl_25))
def fX0_listWays (sz : Int32) (mi : Int32) (fg : Nat → Int32) (nt : Nat → Int32) (wt : Nat → Int32) (wl : Nat → Int32) (a1 : Int32) : Option (Int32 × (Nat → Int32)) :=
  fb_b3 (lpX0_listWays_8 a1 sz mi fg nt wt 14 (fb_tX0_LOWEST (1 : Int32).toNatClampNeg) 0 wl) (fun o26 o27 o28 =>
  some (o27, o28))
def fX0_putWay (sz : Int32) (mi : Int32) (fg : Nat → Int32) (nt : Nat → Int32) (wt : Nat → Int32) (wl : Nat → Int32) (a1 : Int32) (a2 : Int32) : Option ((Nat → Int32)) :=
  fb_b1 (fX0_putNotes sz mi fg nt wt wl a1 (a2 / 784) ((a2 / 28) - (a2 / 28) / 28 * 28) (a2 - a2 / 28 * 28)) (fun nt_2 =>
  some nt_2)
def fX0_isSet (sz : Int32) (mi : Int32) (fg : Nat → Int32) (nt : Nat → Int32) (wt : Nat → Int32) (wl : Nat → Int32) (a1 : Int32) : Option (Int32) :=
  fb_b1 (fX0_isChord sz mi fg nt wt wl a1) (fun r2 =>
  if r2 = 0 then
    some 0
  else
    fb_b1 (fX0_noteAt sz mi fg nt wt wl a1 1) (fun r6 =>
    if r6 = (-1) then
      some 0
    else
      fb_b1 (fX0_noteAt sz mi fg nt wt wl a1 2) (fun r10 =>
      if r10 = (-1) then
        some 0
      else
        fb_b1 (fX0_noteAt sz mi fg nt wt wl a1 3) (fun r14 =>
        if r14 = (-1) then
          some 0
        else
          some 1))))
def fX0_isRight (sz : Int32) (mi : Int32) (fg : Nat → Int32) (nt : Nat → Int32) (wt : Nat → Int32) (wl : Nat → Int32) (a1 : Int32) : Option (Int32) :=
  fb_b1 (fX0_isSet sz mi fg nt wt wl a1) (fun r2 =>
  if r2 = 0 then
    some 0
  else
    fb_b1 (fX0_noteAt sz mi fg nt wt wl a1 1) (fun r6 =>
    fb_b1 (fX0_noteAt sz mi fg nt wt wl a1 2) (fun r8 =>
    fb_b1 (fX0_noteAt sz mi fg nt wt wl a1 3) (fun r10 =>
    fb_b1 (fX0_isRightWith sz mi fg nt wt wl a1 r6 r8 r10) (fun r12 =>
    if r12 = 0 then
      some 0
    else
      some 1)))))
def fX0_follows (sz : Int32) (mi : Int32) (fg : Nat → Int32) (nt : Nat → Int32) (wt : Nat → Int32) (wl : Nat → Int32) (a1 : Int32) : Option (Int32) :=
  fb_b1 (fX0_isSet sz mi fg nt wt wl a1) (fun r2 =>
  if r2 = 0 then
    some 0
  else
    fb_b1 (fX0_isSet sz mi fg nt wt wl (a1 - 1)) (fun r6 =>
    if r6 = 0 then
      some 0
    else
      some 1))
def lpX0_stepsGone_14 (a1 : Int32) (sz : Int32) (mi : Int32) (fg : Nat → Int32) (nt : Nat → Int32) (wt : Nat → Int32) (wl : Nat → Int32) : Nat → (Int32) → (Int32) → Option (Int32 × Int32)
  | 0, _, _ => none
  | n + 1, v4, v5 =>
    if 3 < v4 then
    some (v4, v5)
  else
    fb_b1 (fX0_noteAt sz mi fg nt wt wl a1 v4) (fun r8 =>
    fb_b1 (fX0_noteAt sz mi fg nt wt wl (a1 - 1) v4) (fun r10 =>
    lpX0_stepsGone_14 a1 sz mi fg nt wt wl n (v4 + 1) (v5 + (if 0 ≤ (r8 - r10) then (r8 - r10) else 0 - (r8 - r10)))))
def fX0_stepsGone (sz : Int32) (mi : Int32) (fg : Nat → Int32) (nt : Nat → Int32) (wt : Nat → Int32) (wl : Nat → Int32) (a1 : Int32) : Option (Int32) :=
  fb_b1 (fX0_follows sz mi fg nt wt wl a1) (fun r2 =>
  if r2 = 0 then
    some 0
  else
    fb_b2 (lpX0_stepsGone_14 a1 sz mi fg nt wt wl 14 1 0) (fun o11 o12 =>
    some o12))
def fX0_moves (sz : Int32) (mi : Int32) (fg : Nat → Int32) (nt : Nat → Int32) (wt : Nat → Int32) (wl : Nat → Int32) (a1 : Int32) (a2 : Int32) : Option (Int32) :=
  fb_b1 (fX0_noteAt sz mi fg nt wt wl a1 a2) (fun r2 =>
  fb_b1 (fX0_noteAt sz mi fg nt wt wl (a1 - 1) a2) (fun r4 =>
  if r2 = r4 then
    some 0
  else
    some 1))
def fX0_pitchOf (sz : Int32) (mi : Int32) (fg : Nat → Int32) (nt : Nat → Int32) (wt : Nat → Int32) (wl : Nat → Int32) (a1 : Int32) : Option (Int32) :=
  fb_b1 (if mi = 0 then
      fb_ck (fb_ix (a1 - a1 / 7 * 7) 7) (
      some (fb_tX0_MAJOR (a1 - a1 / 7 * 7).toNatClampNeg))
    else
      fb_ck (fb_ix (a1 - a1 / 7 * 7) 7) (
      some (fb_tX0_MINOR (a1 - a1 / 7 * 7).toNatClampNeg))) (fun (j4 : Int32) =>
  some (((12 : Int32) * (a1 / 7)) + j4))
def fX0_isInterval (sz : Int32) (mi : Int32) (fg : Nat → Int32) (nt : Nat → Int32) (wt : Nat → Int32) (wl : Nat → Int32) (a1 : Int32) (a2 : Int32) (a3 : Int32) (a4 : Int32) : Option (Int32) :=
  fb_b1 (fX0_noteAt sz mi fg nt wt wl a1 a3) (fun r2 =>
  fb_b1 (fX0_pitchOf sz mi fg nt wt wl r2) (fun r4 =>
  fb_b1 (fX0_noteAt sz mi fg nt wt wl a1 a2) (fun r6 =>
  fb_b1 (fX0_pitchOf sz mi fg nt wt wl r6) (fun r8 =>
  if ((r4 - r8) - (r4 - r8) / 12 * 12) = a4 then
    some 1
  else
    some 0))))
def lpX0_parallels_17 (a1 : Int32) (a2 : Int32) (sz : Int32) (mi : Int32) (fg : Nat → Int32) (nt : Nat → Int32) (wt : Nat → Int32) (wl : Nat → Int32) (v1 : Int32) : Nat → (Int32) → (Int32) → Option (Int32 × Int32)
  | 0, _, _ => none
  | n + 1, v4, v5 =>
    if 3 < v4 then
    some (v4, v5)
  else
    fb_b1 (fX0_moves sz mi fg nt wt wl a1 v1) (fun r8 =>
    fb_b1 (if r8 = 0 then
        some v5
      else
        fb_b1 (fX0_moves sz mi fg nt wt wl a1 v4) (fun r11 =>
        if r11 = 0 then
          some v5
        else
          fb_b1 (fX0_isInterval sz mi fg nt wt wl a1 v1 v4 a2) (fun r14 =>
          if r14 = 0 then
            some v5
          else
            fb_b1 (fX0_isInterval sz mi fg nt wt wl (a1 - 1) v1 v4 a2) (fun r17 =>
            if r17 = 0 then
              some v5
            else
              some (v5 + 1))))) (fun (j19 : Int32) =>
    lpX0_parallels_17 a1 a2 sz mi fg nt wt wl v1 n (v4 + 1) j19))
def lpX0_parallels_5 (a1 : Int32) (a2 : Int32) (sz : Int32) (mi : Int32) (fg : Nat → Int32) (nt : Nat → Int32) (wt : Nat → Int32) (wl : Nat → Int32) : Nat → (Int32) → (Int32) → Option (Int32 × Int32)
  | 0, _, _ => none
  | n + 1, v1, v2 =>
    if 3 ≤ v1 then
    some (v1, v2)
  else
    fb_b2 (lpX0_parallels_17 a1 a2 sz mi fg nt wt wl v1 14 (v1 + 1) v2) (fun o20 o21 =>
    lpX0_parallels_5 a1 a2 sz mi fg nt wt wl n (v1 + 1) o21)
def fX0_parallels (sz : Int32) (mi : Int32) (fg : Nat → Int32) (nt : Nat → Int32) (wt : Nat → Int32) (wl : Nat → Int32) (a1 : Int32) (a2 : Int32) : Option (Int32) :=
  fb_b2 (lpX0_parallels_5 a1 a2 sz mi fg nt wt wl 14 0 0) (fun o23 o24 =>
  some o24)
def fX0_isHidden (sz : Int32) (mi : Int32) (fg : Nat → Int32) (nt : Nat → Int32) (wt : Nat → Int32) (wl : Nat → Int32) (a1 : Int32) : Option (Int32) :=
  fb_b1 (fX0_noteAt sz mi fg nt wt wl a1 0) (fun r2 =>
  fb_b1 (fX0_noteAt sz mi fg nt wt wl (a1 - 1) 0) (fun r4 =>
  fb_b1 (fX0_noteAt sz mi fg nt wt wl a1 3) (fun r6 =>
  fb_b1 (fX0_noteAt sz mi fg nt wt wl (a1 - 1) 3) (fun r8 =>
  fb_b1 (if (r2 - r4) ≤ 0 then
      some 0
    else
      if (r6 - r8) < 2 then
        some 0
      else
        some 1) (fun (j11 : Int32) =>
  fb_b1 (if 0 ≤ (r2 - r4) then
      some 0
    else
      if (-2) < (r6 - r8) then
        some 0
      else
        some 1) (fun (j14 : Int32) =>
  if j11 = 0 then
    if j14 = 0 then
      some 0
    else
      fb_b1 (fX0_isInterval sz mi fg nt wt wl a1 0 3 7) (fun r27 =>
      if r27 = 0 then
        fb_b1 (fX0_isInterval sz mi fg nt wt wl a1 0 3 0) (fun r31 =>
        if r31 = 0 then
          some 0
        else
          some 1)
      else
        some 1)
  else
    fb_b1 (fX0_isInterval sz mi fg nt wt wl a1 0 3 7) (fun r17 =>
    if r17 = 0 then
      fb_b1 (fX0_isInterval sz mi fg nt wt wl a1 0 3 0) (fun r21 =>
      if r21 = 0 then
        some 0
      else
        some 1)
    else
      some 1)))))))
def fX0_isAtFault (sz : Int32) (mi : Int32) (fg : Nat → Int32) (nt : Nat → Int32) (wt : Nat → Int32) (wl : Nat → Int32) (a1 : Int32) (a2 : Int32) (a3 : Int32) : Option (Int32) :=
  fb_b1 (fX0_noteAt sz mi fg nt wt wl (a1 - 1) a2) (fun r2 =>
  fb_b1 (fX0_noteAt sz mi fg nt wt wl a1 a2) (fun r4 =>
  if a3 = 3 then
    fb_ck (fb_ix a1 12) (
    if (fg a1.toNatClampNeg) = 4 then
      fb_b1 (fX0_noteAt sz mi fg nt wt wl a1 0) (fun r10 =>
      fb_b1 (fX0_stepAbove r10 r4) (fun r12 =>
      if r12 = 3 then
        if (r4 - r2) = 0 then
          some 0
        else
          some 1
      else
        some 0))
    else
      some 0)
  else if a3 = 4 then
    fb_ck (fb_ix (a1 - 1) 12) (
    if (fg (a1 - 1).toNatClampNeg) = 4 then
      fb_b1 (fX0_noteAt sz mi fg nt wt wl (a1 - 1) 0) (fun r22 =>
      fb_b1 (fX0_stepAbove r22 r2) (fun r24 =>
      if r24 = 3 then
        if (r4 - r2) = (-1) then
          some 0
        else
          some 1
      else
        some 0))
    else
      some 0)
  else if a3 = 5 then
    fb_b1 (fX0_noteAt sz mi fg nt wt wl a1 0) (fun r31 =>
    if (r31 - r31 / 7 * 7) = 0 then
      if (r2 - r2 / 7 * 7) = 6 then
        if (r4 - r2) = 1 then
          some 0
        else
          some 1
      else
        some 0
    else
      some 0)
  else if a3 = 6 then
    fb_ck (fb_ix (a1 - 1) 12) (
    if (fg (a1 - 1).toNatClampNeg) = 3 then
      fb_b1 (fX0_noteAt sz mi fg nt wt wl (a1 - 1) 0) (fun r43 =>
      fb_b1 (fX0_stepAbove r43 r2) (fun r45 =>
      if r45 = 6 then
        if (r4 - r2) = 0 then
          some 0
        else
          if (r4 - r2) = (-1) then
            some 0
          else
            some 1
      else
        some 0))
    else
      some 0)
  else if a3 = 7 then
    if 4 < (r4 - r2) then
      some 1
    else
      if (-4) ≤ (r4 - r2) then
        some 0
      else
        some 1
  else 
    some 0))
def lpX0_voicesAtFault_5 (a1 : Int32) (a2 : Int32) (sz : Int32) (mi : Int32) (fg : Nat → Int32) (nt : Nat → Int32) (wt : Nat → Int32) (wl : Nat → Int32) : Nat → (Int32) → (Int32) → Option (Int32 × Int32)
  | 0, _, _ => none
  | n + 1, v1, v2 =>
    if 3 < v1 then
    some (v1, v2)
  else
    fb_b1 (fX0_isAtFault sz mi fg nt wt wl a1 v1 a2) (fun r5 =>
    fb_b1 (if r5 = 0 then
        some v2
      else
        some (v2 + 1)) (fun (j7 : Int32) =>
    lpX0_voicesAtFault_5 a1 a2 sz mi fg nt wt wl n (v1 + 1) j7))
def fX0_voicesAtFault (sz : Int32) (mi : Int32) (fg : Nat → Int32) (nt : Nat → Int32) (wt : Nat → Int32) (wl : Nat → Int32) (a1 : Int32) (a2 : Int32) : Option (Int32) :=
  fb_b2 (lpX0_voicesAtFault_5 a1 a2 sz mi fg nt wt wl 14 1 0) (fun o8 o9 =>
  some o9)
def fX0_faultsOf (sz : Int32) (mi : Int32) (fg : Nat → Int32) (nt : Nat → Int32) (wt : Nat → Int32) (wl : Nat → Int32) (a1 : Int32) (a2 : Int32) : Option (Int32) :=
  fb_b1 (fX0_follows sz mi fg nt wt wl a1) (fun r2 =>
  if r2 = 0 then
    some 0
  else
    if a2 = 0 then
      fb_b1 (fX0_parallels sz mi fg nt wt wl a1 7) (fun r6 =>
      some r6)
    else if a2 = 1 then
      fb_b1 (fX0_parallels sz mi fg nt wt wl a1 0) (fun r9 =>
      some r9)
    else if a2 = 2 then
      fb_b1 (fX0_isHidden sz mi fg nt wt wl a1) (fun r12 =>
      if r12 = 0 then
        some 0
      else
        some 1)
    else 
      fb_b1 (fX0_voicesAtFault sz mi fg nt wt wl a1 a2) (fun r17 =>
      some r17))
def lpX0_costOf_35 (a1 : Int32) (sz : Int32) (mi : Int32) (fg : Nat → Int32) (nt : Nat → Int32) (wt : Nat → Int32) (wl : Nat → Int32) : Nat → (Int32) → (Int32) → Option (Int32 × Int32)
  | 0, _, _ => none
  | n + 1, v10, v11 =>
    if 8 ≤ v10 then
    some (v10, v11)
  else
    fb_ck (fb_ix v10 8) (
    fb_b1 (fX0_faultsOf sz mi fg nt wt wl a1 v10) (fun r15 =>
    lpX0_costOf_35 a1 sz mi fg nt wt wl n (v10 + 1) (v11 + ((wt v10.toNatClampNeg) * r15))))
def fX0_costOf (sz : Int32) (mi : Int32) (fg : Nat → Int32) (nt : Nat → Int32) (wt : Nat → Int32) (wl : Nat → Int32) (a1 : Int32) : Option (Int32) :=
  fb_b1 (fX0_isSet sz mi fg nt wt wl a1) (fun r2 =>
  if r2 = 0 then
    some 0
  else
    fb_b1 (fX0_isRight sz mi fg nt wt wl a1) (fun r5 =>
    fb_b1 (if r5 = 0 then
        some 30
      else
        some 0) (fun (j7 : Int32) =>
    fb_b1 (fX0_stepsGone sz mi fg nt wt wl a1) (fun r9 =>
    fb_b2 (lpX0_costOf_35 a1 sz mi fg nt wt wl 14 0 (j7 + r9)) (fun o16 o17 =>
    some o17)))))
def lpX0_bestWay_38 (a1 : Int32) (sz : Int32) (mi : Int32) (fg : Nat → Int32) (wt : Nat → Int32) (r8 : Int32) (wl_9 : Nat → Int32) : Nat → (Int32) → (Int32) → (Int32) → (Nat → Int32) → Option (Int32 × Int32 × Int32 × (Nat → Int32))
  | 0, _, _, _, _ => none
  | n + 1, v10, v11, v12, nt_13 =>
    if r8 ≤ v10 then
    some (v10, v11, v12, nt_13)
  else
    if 96 ≤ v10 then
      some (v10, v11, v12, nt_13)
    else
      fb_ck (fb_ix v10 96) (
      fb_b1 (fX0_putWay sz mi fg nt_13 wt wl_9 a1 (wl_9 v10.toNatClampNeg)) (fun nt_18 =>
      fb_b1 (fX0_costOf sz mi fg nt_18 wt wl_9 a1) (fun r20 =>
      fb_b1 (fX0_costOf sz mi fg nt_18 wt wl_9 (a1 + 1)) (fun r22 =>
      fb_b2 (if v12 < 0 then
          some (r20 + r22, wl_9 v10.toNatClampNeg)
        else
          if v11 ≤ (r20 + r22) then
            some (v11, v12)
          else
            some (r20 + r22, wl_9 v10.toNatClampNeg)) (fun (j25 : Int32) (j26 : Int32) =>
      lpX0_bestWay_38 a1 sz mi fg wt r8 wl_9 n (v10 + 1) j25 j26 nt_18)))))
def fX0_bestWay (sz : Int32) (mi : Int32) (fg : Nat → Int32) (nt : Nat → Int32) (wt : Nat → Int32) (wl : Nat → Int32) (a1 : Int32) : Option (Int32 × (Nat → Int32) × (Nat → Int32)) :=
  fb_b1 (fX0_noteAt sz mi fg nt wt wl a1 1) (fun r2 =>
  fb_b1 (fX0_noteAt sz mi fg nt wt wl a1 2) (fun r4 =>
  fb_b1 (fX0_noteAt sz mi fg nt wt wl a1 3) (fun r6 =>
  fb_b2 (fX0_listWays sz mi fg nt wt wl a1) (fun r8 wl_9 =>
  fb_b4 (lpX0_bestWay_38 a1 sz mi fg wt r8 wl_9 100 0 0 (-1) nt) (fun o27 o28 o29 o30 =>
  fb_b1 (fX0_putNotes sz mi fg o30 wt wl_9 a1 r2 r4 r6) (fun nt_32 =>
  some (o29, nt_32, wl_9)))))))
def fX0_lead (sz : Int32) (mi : Int32) (fg : Nat → Int32) (nt : Nat → Int32) (wt : Nat → Int32) (wl : Nat → Int32) (a1 : Int32) : Option (Except (String × (Nat → Int32) × (Nat → Int32)) (Int32 × (Nat → Int32) × (Nat → Int32))) :=
  fb_b1 (fX0_isChord sz mi fg nt wt wl a1) (fun r2 =>
  if r2 = 0 then
    some (.error ("java/lang/IndexOutOfBoundsException", (nt, wl)))
  else
    fb_b3 (fX0_bestWay sz mi fg nt wt wl a1) (fun r5 nt_6 wl_7 =>
    if 0 ≤ r5 then
      fb_b1 (fX0_putWay sz mi fg nt_6 wt wl_7 a1 r5) (fun nt_10 =>
      fb_b1 (fX0_costOf sz mi fg nt_10 wt wl_7 a1) (fun r12 =>
      some (.ok (r12, nt_10, wl_7))))
    else
      some (.error ("java/lang/IllegalStateException", (nt_6, wl_7)))))
def lpX0_leadAll_4 (sz : Int32) (mi : Int32) (fg : Nat → Int32) (wt : Nat → Int32) : Nat → (Int32) → (Int32) → (Nat → Int32) → (Nat → Int32) → Option (Int32 × Int32 × (Nat → Int32) × (Nat → Int32))
  | 0, _, _, _, _ => none
  | n + 1, v1, v2, nt_3, wl_4 =>
    if sz ≤ v1 then
    some (v1, v2, nt_3, wl_4)
  else
    fb_b3 (fX0_bestWay sz mi fg nt_3 wt wl_4 v1) (fun r7 nt_8 wl_9 =>
    fb_b2 (if r7 < 0 then
        some (v2, nt_8)
      else
        fb_b1 (fX0_putWay sz mi fg nt_8 wt wl_9 v1 r7) (fun nt_12 =>
        some (v2 + 1, nt_12))) (fun (j13 : Int32) (nt_14 : Nat → Int32) =>
    lpX0_leadAll_4 sz mi fg wt n (v1 + 1) j13 nt_14 wl_9))
def fX0_leadAll (sz : Int32) (mi : Int32) (fg : Nat → Int32) (nt : Nat → Int32) (wt : Nat → Int32) (wl : Nat → Int32) : Option (Int32 × (Nat → Int32) × (Nat → Int32)) :=
  fb_b4 (lpX0_leadAll_4 sz mi fg wt 14 0 0 nt wl) (fun o15 o16 o17 o18 =>
  some (o16, o17, o18))
def fX0_note (sz : Int32) (mi : Int32) (fg : Nat → Int32) (nt : Nat → Int32) (wt : Nat → Int32) (wl : Nat → Int32) (a1 : Int32) (a2 : Int32) : Option (Except (String × Unit) (Int32)) :=
  fb_b1 (fX0_isChord sz mi fg nt wt wl a1) (fun r2 =>
  if r2 = 0 then
    some (.error ("java/lang/IndexOutOfBoundsException", ()))
  else
    if a2 < 0 then
      some (.error ("java/lang/IndexOutOfBoundsException", ()))
    else
      if a2 < 4 then
        fb_b1 (fX0_noteAt sz mi fg nt wt wl a1 a2) (fun r7 =>
        some (.ok r7))
      else
        some (.error ("java/lang/IndexOutOfBoundsException", ())))
def fX0_tellOf (sz : Int32) (mi : Int32) (fg : Nat → Int32) (nt : Nat → Int32) (wt : Nat → Int32) (wl : Nat → Int32) (a1 : Int32) (a2 : Int32) : Option (Int32) :=
  if a2 = 0 then
    fb_ck (fb_ix a1 12) (
    some (fg a1.toNatClampNeg))
  else if a2 = 1 then
    fb_b1 (fX0_noteAt sz mi fg nt wt wl a1 0) (fun r5 =>
    some (r5 - r5 / 7 * 7))
  else if a2 = 2 then
    fb_b1 (fX0_isSet sz mi fg nt wt wl a1) (fun r8 =>
    if r8 = 0 then
      some 0
    else
      some 1)
  else if a2 = 3 then
    fb_b1 (fX0_isRight sz mi fg nt wt wl a1) (fun r13 =>
    if r13 = 0 then
      some 0
    else
      some 1)
  else if a2 = 4 then
    fb_b1 (fX0_stepsGone sz mi fg nt wt wl a1) (fun r18 =>
    some r18)
  else 
    fb_b1 (fX0_costOf sz mi fg nt wt wl a1) (fun r21 =>
    some r21)
def fX0_told (sz : Int32) (mi : Int32) (fg : Nat → Int32) (nt : Nat → Int32) (wt : Nat → Int32) (wl : Nat → Int32) (a1 : Int32) (a2 : Int32) : Option (Except (String × Unit) (Int32)) :=
  fb_b1 (fX0_isChord sz mi fg nt wt wl a1) (fun r2 =>
  if r2 = 0 then
    some (.error ("java/lang/IndexOutOfBoundsException", ()))
  else
    if a2 < 0 then
      some (.error ("java/lang/IndexOutOfBoundsException", ()))
    else
      if a2 < 6 then
        fb_b1 (fX0_tellOf sz mi fg nt wt wl a1 a2) (fun r7 =>
        some (.ok r7))
      else
        some (.error ("java/lang/IndexOutOfBoundsException", ())))
def fX0_faults (sz : Int32) (mi : Int32) (fg : Nat → Int32) (nt : Nat → Int32) (wt : Nat → Int32) (wl : Nat → Int32) (a1 : Int32) (a2 : Int32) : Option (Except (String × Unit) (Int32)) :=
  fb_b1 (fX0_isChord sz mi fg nt wt wl a1) (fun r2 =>
  if r2 = 0 then
    some (.error ("java/lang/IndexOutOfBoundsException", ()))
  else
    fb_b1 (fX0_isFault a2) (fun r5 =>
    if r5 = 0 then
      some (.error ("java/lang/IndexOutOfBoundsException", ()))
    else
      fb_b1 (fX0_faultsOf sz mi fg nt wt wl a1 a2) (fun r8 =>
      some (.ok r8))))
def lpX0_allFaultsOf_4 (a1 : Int32) (sz : Int32) (mi : Int32) (fg : Nat → Int32) (nt : Nat → Int32) (wt : Nat → Int32) (wl : Nat → Int32) : Nat → (Int32) → (Int32) → Option (Int32 × Int32)
  | 0, _, _ => none
  | n + 1, v1, v2 =>
    if 8 ≤ v1 then
    some (v1, v2)
  else
    fb_b1 (fX0_faultsOf sz mi fg nt wt wl a1 v1) (fun r5 =>
    lpX0_allFaultsOf_4 a1 sz mi fg nt wt wl n (v1 + 1) (v2 + r5))
def fX0_allFaultsOf (sz : Int32) (mi : Int32) (fg : Nat → Int32) (nt : Nat → Int32) (wt : Nat → Int32) (wl : Nat → Int32) (a1 : Int32) : Option (Int32) :=
  fb_b2 (lpX0_allFaultsOf_4 a1 sz mi fg nt wt wl 14 0 0) (fun o6 o7 =>
  some o7)
def lpX0_countOf_23 (a1 : Int32) (sz : Int32) (mi : Int32) (fg : Nat → Int32) (nt : Nat → Int32) (wt : Nat → Int32) (wl : Nat → Int32) : Nat → (Int32) → (Int32) → Option (Int32 × Int32)
  | 0, _, _ => none
  | n + 1, v2, v3 =>
    if sz ≤ v2 then
    some (v2, v3)
  else
    fb_b1 (if a1 = 0 then
        some (v3 + 1)
      else if a1 = 1 then
        fb_b1 (fX0_isSet sz mi fg nt wt wl v2) (fun r7 =>
        fb_b1 (if r7 = 0 then
            some 0
          else
            some 1) (fun (j9 : Int32) =>
        some (v3 + j9)))
      else if a1 = 2 then
        fb_b1 (fX0_isRight sz mi fg nt wt wl v2) (fun r11 =>
        fb_b1 (if r11 = 0 then
            some 0
          else
            some 1) (fun (j13 : Int32) =>
        some (v3 + j13)))
      else if a1 = 3 then
        fb_b1 (fX0_stepsGone sz mi fg nt wt wl v2) (fun r15 =>
        some (v3 + r15))
      else if a1 = 4 then
        fb_b1 (fX0_allFaultsOf sz mi fg nt wt wl v2) (fun r17 =>
        some (v3 + r17))
      else 
        fb_b1 (fX0_costOf sz mi fg nt wt wl v2) (fun r19 =>
        some (v3 + r19))) (fun (j20 : Int32) =>
    lpX0_countOf_23 a1 sz mi fg nt wt wl n (v2 + 1) j20)
def fX0_countOf (sz : Int32) (mi : Int32) (fg : Nat → Int32) (nt : Nat → Int32) (wt : Nat → Int32) (wl : Nat → Int32) (a1 : Int32) : Option (Int32) :=
  if a1 = 6 then
    if mi = 0 then
      some 0
    else
      some 1
  else
    fb_b2 (lpX0_countOf_23 a1 sz mi fg nt wt wl 14 0 0) (fun o21 o22 =>
    some o22)
def fX0_count (sz : Int32) (mi : Int32) (fg : Nat → Int32) (nt : Nat → Int32) (wt : Nat → Int32) (wl : Nat → Int32) (a1 : Int32) : Option (Except (String × Unit) (Int32)) :=
  if a1 < 0 then
    some (.error ("java/lang/IndexOutOfBoundsException", ()))
  else
    if a1 < 7 then
      fb_b1 (fX0_countOf sz mi fg nt wt wl a1) (fun r4 =>
      some (.ok r4))
    else
      some (.error ("java/lang/IndexOutOfBoundsException", ()))
def fX0_isNote (a1 : Int32) : Option (Int32) :=
  if a1 < 0 then
    some 0
  else
    if 28 ≤ a1 then
      some 0
    else
      some 1
def fX0_pitch (sz : Int32) (mi : Int32) (fg : Nat → Int32) (nt : Nat → Int32) (wt : Nat → Int32) (wl : Nat → Int32) (a1 : Int32) : Option (Except (String × Unit) (Int32)) :=
  fb_b1 (fX0_isNote a1) (fun r2 =>
  if r2 = 0 then
    some (.error ("java/lang/IllegalArgumentException", ()))
  else
    fb_b1 (fX0_pitchOf sz mi fg nt wt wl a1) (fun r5 =>
    some (.ok r5)))
def fX0_fits (sz : Int32) (mi : Int32) (fg : Nat → Int32) (nt : Nat → Int32) (wt : Nat → Int32) (wl : Nat → Int32) (a1 : Int32) (a2 : Int32) (a3 : Int32) : Option (Except (String × Unit) (Int32)) :=
  fb_b1 (fX0_isChord sz mi fg nt wt wl a1) (fun r2 =>
  if r2 = 0 then
    some (.error ("java/lang/IndexOutOfBoundsException", ()))
  else
    fb_b1 (fX0_isUpperVoice a2) (fun r5 =>
    if r5 = 0 then
      some (.error ("java/lang/IndexOutOfBoundsException", ()))
    else
      fb_b1 (fX0_isNote a3) (fun r8 =>
      if r8 = 0 then
        some (.error ("java/lang/IllegalArgumentException", ()))
      else
        fb_b1 (fX0_isNoteOf a2 a3) (fun r11 =>
        if r11 = 0 then
          some (.ok 0)
        else
          fb_b1 (fX0_belongs sz mi fg nt wt wl a1 a3) (fun r15 =>
          if r15 = 0 then
            some (.ok 0)
          else
            some (.ok 1))))))
def fX0_ways (sz : Int32) (mi : Int32) (fg : Nat → Int32) (nt : Nat → Int32) (wt : Nat → Int32) (wl : Nat → Int32) (a1 : Int32) : Option (Except (String × (Nat → Int32)) (Int32 × (Nat → Int32))) :=
  fb_b1 (fX0_isChord sz mi fg nt wt wl a1) (fun r2 =>
  if r2 = 0 then
    some (.error ("java/lang/IndexOutOfBoundsException", wl))
  else
    fb_b2 (fX0_listWays sz mi fg nt wt wl a1) (fun r5 wl_6 =>
    some (.ok (r5, wl_6))))
def fX0_would (sz : Int32) (mi : Int32) (fg : Nat → Int32) (nt : Nat → Int32) (wt : Nat → Int32) (wl : Nat → Int32) (a1 : Int32) (a2 : Int32) (a3 : Int32) : Option (Except (String × (Nat → Int32)) (Int32 × (Nat → Int32))) :=
  fb_b1 (fX0_isChord sz mi fg nt wt wl a1) (fun r2 =>
  if r2 = 0 then
    some (.error ("java/lang/IndexOutOfBoundsException", nt))
  else
    fb_b1 (fX0_isUpperVoice a2) (fun r5 =>
    if r5 = 0 then
      some (.error ("java/lang/IndexOutOfBoundsException", nt))
    else
      if a3 = (-1) then
        fb_b2 (fX0_exchangeNote sz mi fg nt wt wl a1 a2 a3) (fun r9 nt_10 =>
        fb_b1 (fX0_countOf sz mi fg nt_10 wt wl 5) (fun r12 =>
        fb_b2 (fX0_exchangeNote sz mi fg nt_10 wt wl a1 a2 r9) (fun r14 nt_15 =>
        some (.ok (r12, nt_15)))))
      else
        fb_b1 (fX0_isNoteOf a2 a3) (fun r18 =>
        if r18 = 0 then
          some (.error ("java/lang/IllegalArgumentException", nt))
        else
          fb_b2 (fX0_exchangeNote sz mi fg nt wt wl a1 a2 a3) (fun r21 nt_22 =>
          fb_b1 (fX0_countOf sz mi fg nt_22 wt wl 5) (fun r24 =>
          fb_b2 (fX0_exchangeNote sz mi fg nt_22 wt wl a1 a2 r21) (fun r26 nt_27 =>
          some (.ok (r24, nt_27))))))))
def fX0_best (sz : Int32) (mi : Int32) (fg : Nat → Int32) (nt : Nat → Int32) (wt : Nat → Int32) (wl : Nat → Int32) (a1 : Int32) : Option (Except (String × (Nat → Int32) × (Nat → Int32)) (Int32 × (Nat → Int32) × (Nat → Int32))) :=
  fb_b1 (fX0_isChord sz mi fg nt wt wl a1) (fun r2 =>
  if r2 = 0 then
    some (.error ("java/lang/IndexOutOfBoundsException", (nt, wl)))
  else
    fb_b3 (fX0_bestWay sz mi fg nt wt wl a1) (fun r5 nt_6 wl_7 =>
    some (.ok (r5, nt_6, wl_7))))
def lpX0_advise_57 (a1 : Int32) (sz : Int32) (mi : Int32) (wt : Nat → Int32) : Nat → (Int32) → (Int32) → (Int32) → (Nat → Int32) → (Nat → Int32) → (Nat → Int32) → Option (Int32 × Int32 × Int32 × (Nat → Int32) × (Nat → Int32) × (Nat → Int32))
  | 0, _, _, _, _, _, _ => none
  | n + 1, v11, v12, v13, fg_14, nt_15, wl_16 =>
    if 6 ≤ v11 then
    some (v11, v12, v13, fg_14, nt_15, wl_16)
  else
    fb_b3 (fX0_bestWay sz mi (upd fg_14 a1.toNatClampNeg v11) nt_15 wt wl_16 a1) (fun r19 nt_20 wl_21 =>
    fb_b3 (if r19 < 0 then
        some (v12, v13, nt_20)
      else
        fb_b1 (fX0_putWay sz mi (upd fg_14 a1.toNatClampNeg v11) nt_20 wt wl_21 a1 r19) (fun nt_24 =>
        fb_b1 (fX0_costOf sz mi (upd fg_14 a1.toNatClampNeg v11) nt_24 wt wl_21 a1) (fun r26 =>
        fb_b1 (fX0_costOf sz mi (upd fg_14 a1.toNatClampNeg v11) nt_24 wt wl_21 (a1 + 1)) (fun r28 =>
        if v13 < 0 then
          some (r26 + r28, v11, nt_24)
        else
          if v12 ≤ (r26 + r28) then
            some (v12, v13, nt_24)
          else
            some (r26 + r28, v11, nt_24))))) (fun (j31 : Int32) (j32 : Int32) (nt_33 : Nat → Int32) =>
    lpX0_advise_57 a1 sz mi wt n (v11 + 1) j31 j32 (upd fg_14 a1.toNatClampNeg v11) nt_33 wl_21))
def fX0_advise (sz : Int32) (mi : Int32) (fg : Nat → Int32) (nt : Nat → Int32) (wt : Nat → Int32) (wl : Nat → Int32) (a1 : Int32) : Option (Except (String × (Nat → Int32) × (Nat → Int32) × (Nat → Int32)) (Int32 × (Nat → Int32) × (Nat → Int32) × (Nat → Int32))) :=
  fb_b1 (fX0_isChord sz mi fg nt wt wl a1) (fun r2 =>
  if r2 = 0 then
    some (.error ("java/lang/IndexOutOfBoundsException", (fg, nt, wl)))
  else
    fb_ck (fb_ix a1 12) (
    fb_b1 (fX0_noteAt sz mi fg nt wt wl a1 1) (fun r6 =>
    fb_b1 (fX0_noteAt sz mi fg nt wt wl a1 2) (fun r8 =>
    fb_b1 (fX0_noteAt sz mi fg nt wt wl a1 3) (fun r10 =>
    fb_b6 (lpX0_advise_57 a1 sz mi wt 14 0 0 (-1) fg nt wl) (fun o34 o35 o36 o37 o38 o39 =>
    fb_b1 (fX0_putNotes sz mi (upd o37 a1.toNatClampNeg (fg a1.toNatClampNeg)) o38 wt o39 a1 r6 r8 r10) (fun nt_41 =>
    some (.ok (o36, upd o37 a1.toNatClampNeg (fg a1.toNatClampNeg), nt_41, o39)))))))))
def fX0_mean (sz : Int32) (mi : Int32) (fg : Nat → Int32) (nt : Nat → Int32) (wt : Nat → Int32) (wl : Nat → Int32) : Option (UInt64) :=
  fb_b1 (fX0_countOf sz mi fg nt wt wl 1) (fun r2 =>
  if r2 = 0 then
    some FP.dconst0
  else
    fb_b1 (fX0_countOf sz mi fg nt wt wl 5) (fun r5 =>
    some (FP.ddiv (FP.i2d r5) (FP.i2d r2))))
def lpX0_digest_6 (sz : Int32) (mi : Int32) (fg : Nat → Int32) (nt : Nat → Int32) (wt : Nat → Int32) (wl : Nat → Int32) : Nat → (Int32) → (Int64) → Option (Int32 × Int64)
  | 0, _, _ => none
  | n + 1, v1, v2 =>
    if 7 ≤ v1 then
    some (v1, v2)
  else
    fb_b1 (fX0_countOf sz mi fg nt wt wl v1) (fun r5 =>
    lpX0_digest_6 sz mi fg nt wt wl n (v1 + 1) ((v2 * 31) + r5.toInt64))
def lpX0_digest_33 (wt : Nat → Int32) : Nat → (Int32) → (Int64) → Option (Int32 × Int64)
  | 0, _, _ => none
  | n + 1, v8, v9 =>
    if 8 ≤ v8 then
    some (v8, v9)
  else
    fb_ck (fb_ix v8 8) (
    lpX0_digest_33 wt n (v8 + 1) ((v9 * 31) + ((wt v8.toNatClampNeg).toInt64)))
def lpX0_digest_72 (sz : Int32) (mi : Int32) (fg : Nat → Int32) (nt : Nat → Int32) (wt : Nat → Int32) (v14 : Int32) (wl_16 : Nat → Int32) : Nat → (Int32) → (Int64) → Option (Int32 × Int64)
  | 0, _, _ => none
  | n + 1, v18, v19 =>
    if 4 ≤ v18 then
    some (v18, v19)
  else
    fb_b1 (fX0_noteAt sz mi fg nt wt wl_16 v14 v18) (fun r22 =>
    lpX0_digest_72 sz mi fg nt wt v14 wl_16 n (v18 + 1) ((v19 * 31) + r22.toInt64))
def lpX0_digest_102 (sz : Int32) (mi : Int32) (fg : Nat → Int32) (nt : Nat → Int32) (wt : Nat → Int32) (v14 : Int32) (wl_16 : Nat → Int32) : Nat → (Int32) → (Int64) → Option (Int32 × Int64)
  | 0, _, _ => none
  | n + 1, v25, v26 =>
    if 6 ≤ v25 then
    some (v25, v26)
  else
    fb_b1 (fX0_tellOf sz mi fg nt wt wl_16 v14 v25) (fun r29 =>
    lpX0_digest_102 sz mi fg nt wt v14 wl_16 n (v25 + 1) ((v26 * 31) + r29.toInt64))
def lpX0_digest_133 (sz : Int32) (mi : Int32) (fg : Nat → Int32) (nt : Nat → Int32) (wt : Nat → Int32) (v14 : Int32) (wl_16 : Nat → Int32) : Nat → (Int32) → (Int64) → Option (Int32 × Int64)
  | 0, _, _ => none
  | n + 1, v32, v33 =>
    if 8 ≤ v32 then
    some (v32, v33)
  else
    fb_b1 (fX0_faultsOf sz mi fg nt wt wl_16 v14 v32) (fun r36 =>
    lpX0_digest_133 sz mi fg nt wt v14 wl_16 n (v32 + 1) ((v33 * 31) + r36.toInt64))
def lpX0_digest_61 (sz : Int32) (mi : Int32) (fg : Nat → Int32) (nt : Nat → Int32) (wt : Nat → Int32) : Nat → (Int32) → (Int64) → (Nat → Int32) → Option (Int32 × Int64 × (Nat → Int32))
  | 0, _, _, _ => none
  | n + 1, v14, v15, wl_16 =>
    if sz ≤ v14 then
    some (v14, v15, wl_16)
  else
    fb_b2 (lpX0_digest_72 sz mi fg nt wt v14 wl_16 14 0 v15) (fun o23 o24 =>
    fb_b2 (lpX0_digest_102 sz mi fg nt wt v14 wl_16 14 0 o24) (fun o30 o31 =>
    fb_b2 (lpX0_digest_133 sz mi fg nt wt v14 wl_16 14 0 o31) (fun o37 o38 =>
    fb_b2 (fX0_listWays sz mi fg nt wt wl_16 v14) (fun r40 wl_41 =>
    lpX0_digest_61 sz mi fg nt wt n (v14 + 1) ((o38 * 31) + r40.toInt64) wl_41))))
def fX0_digest (sz : Int32) (mi : Int32) (fg : Nat → Int32) (nt : Nat → Int32) (wt : Nat → Int32) (wl : Nat → Int32) : Option (Int64 × (Nat → Int32)) :=
  fb_b2 (lpX0_digest_6 sz mi fg nt wt wl 14 0 1693) (fun o6 o7 =>
  fb_b2 (lpX0_digest_33 wt 14 0 o7) (fun o12 o13 =>
  fb_b3 (lpX0_digest_61 sz mi fg nt wt 14 0 o13 wl) (fun o45 o46 o47 =>
  some (o46, o47))))
def fX1_init  : Option (Int32 × Int32 × (Nat → Int32) × (Nat → Int32) × (Nat → Int32) × Int32) :=
  some (0, 0, (fun _ => 0), (fun _ => 0), (upd (upd (upd (upd (upd (upd (upd (upd (fun _ => 0) (0 : Int32).toNatClampNeg 2) (1 : Int32).toNatClampNeg 2) (2 : Int32).toNatClampNeg 2) (3 : Int32).toNatClampNeg 2) (4 : Int32).toNatClampNeg 2) (5 : Int32).toNatClampNeg 2) (6 : Int32).toNatClampNeg 2) (7 : Int32).toNatClampNeg 2), 0)
def fX1_thrown (th : Int32) (ch : Int32) (nt : Nat → Int32) (fg : Nat → Int32) (wt : Nat → Int32) (mi : Int32) : Option (Int32) :=
  some th
def fX1_no (th : Int32) (ch : Int32) (nt : Nat → Int32) (fg : Nat → Int32) (wt : Nat → Int32) (mi : Int32) (a1 : Int32) : Option (Int32 × Int32) :=
  some (0, a1)
def fX1_isIn (a1 : Int32) (a2 : Int32) (a3 : Int32) : Option (Int32) :=
  if a1 < a2 then
    some 0
  else
    if a3 < a1 then
      some 0
    else
      some 1
def fX1_isChord (th : Int32) (ch : Int32) (nt : Nat → Int32) (fg : Nat → Int32) (wt : Nat → Int32) (mi : Int32) (a1 : Int32) : Option (Int32) :=
  fb_b1 (fX1_isIn a1 0 (ch - 1)) (fun r2 =>
  fb_ck (fb_z r2) (some r2))
def fX1_isOf (a1 : Int32) (a2 : Int32) : Option (Int32) :=
  fb_ck (fb_ix a1 4) (
  fb_b1 (fX1_isIn a2 (fb_tX1_LOW a1.toNatClampNeg) (fb_tX1_HIGH a1.toNatClampNeg)) (fun r3 =>
  fb_ck (fb_z r3) (some r3)))
def fX1_at (th : Int32) (ch : Int32) (nt : Nat → Int32) (fg : Nat → Int32) (wt : Nat → Int32) (mi : Int32) (a1 : Int32) (a2 : Int32) : Option (Int32) :=
  fb_ck (fb_ix (((4 : Int32) * a1) + a2) 48) (
  some (nt (((4 : Int32) * a1) + a2).toNatClampNeg))
def fX1_pitchOf (th : Int32) (ch : Int32) (nt : Nat → Int32) (fg : Nat → Int32) (wt : Nat → Int32) (mi : Int32) (a1 : Int32) : Option (Int32) :=
  if mi = 0 then
    fb_ck (fb_ix (a1 - a1 / 7 * 7) 7) (
    some (((12 : Int32) * (a1 / 7)) + (fb_tX1_MAJOR (a1 - a1 / 7 * 7).toNatClampNeg)))
  else
    fb_ck (fb_ix (a1 - a1 / 7 * 7) 7) (
    some (((12 : Int32) * (a1 / 7)) + (fb_tX1_MINOR (a1 - a1 / 7 * 7).toNatClampNeg)))
def fX1_step (a1 : Int32) (a2 : Int32) : Option (Int32) :=
  some (((a1 - a2) + 21) - ((a1 - a2) + 21) / 7 * 7)
def fX1_isSet (th : Int32) (ch : Int32) (nt : Nat → Int32) (fg : Nat → Int32) (wt : Nat → Int32) (mi : Int32) (a1 : Int32) : Option (Int32) :=
  fb_b1 (fX1_at th ch nt fg wt mi a1 1) (fun r2 =>
  if r2 = (-1) then
    some 0
  else
    fb_b1 (fX1_at th ch nt fg wt mi a1 2) (fun r6 =>
    if r6 = (-1) then
      some 0
    else
      fb_b1 (fX1_at th ch nt fg wt mi a1 3) (fun r10 =>
      if r10 = (-1) then
        some 0
      else
        some 1)))
def fX1_belongs (a1 : Int32) (a2 : Int32) (a3 : Int32) : Option (Int32) :=
  fb_ck (fb_ix a3 6) (
  fb_b1 (fX1_step a1 a2) (fun r3 =>
  if ((((fb_tX1_STEPS a3.toNatClampNeg) ||| 1) >>> (r3 &&& 31)) &&& 1) = 1 then
    some 1
  else
    some 0))
def lpX1_isRight_17 (a1 : Int32) (th : Int32) (ch : Int32) (nt : Nat → Int32) (fg : Nat → Int32) (wt : Nat → Int32) (mi : Int32) : Nat → (Int32) → (Int32) → (Int32) → Option (Int32 × Int32 × Int32)
  | 0, _, _, _ => none
  | n + 1, v4, v5, v6 =>
    if 4 ≤ v4 then
    some (v4, v5, v6)
  else
    fb_b1 (fX1_at th ch nt fg wt mi a1 v4) (fun r9 =>
    fb_b1 (fX1_at th ch nt fg wt mi a1 (v4 - 1)) (fun r11 =>
    fb_b1 (if r9 < r11 then
        some 0
      else
        some 1) (fun (j13 : Int32) =>
    fb_b1 (fX1_at th ch nt fg wt mi a1 v4) (fun r15 =>
    fb_b1 (fX1_at th ch nt fg wt mi a1 0) (fun r17 =>
    fb_b1 (fX1_step r15 r17) (fun r19 =>
    lpX1_isRight_17 a1 th ch nt fg wt mi n (v4 + 1) (v5 &&& j13) (v6 ||| ((1 : Int32) <<< (r19 &&& 31)))))))))
def fX1_isRight (th : Int32) (ch : Int32) (nt : Nat → Int32) (fg : Nat → Int32) (wt : Nat → Int32) (mi : Int32) (a1 : Int32) : Option (Int32) :=
  fb_b1 (fX1_isSet th ch nt fg wt mi a1) (fun r2 =>
  if r2 = 0 then
    some 0
  else
    fb_b3 (lpX1_isRight_17 a1 th ch nt fg wt mi 14 1 1 0) (fun o20 o21 o22 =>
    if o21 = 0 then
      some 0
    else
      fb_ck (fb_ix a1 12) (
      fb_ck (fb_ix (fg a1.toNatClampNeg) 6) (
      if (o22 ||| 1) = ((fb_tX1_STEPS (fg a1.toNatClampNeg).toNatClampNeg) ||| 1) then
        some 1
      else
        some 0))))
def fX1_goes (th : Int32) (ch : Int32) (nt : Nat → Int32) (fg : Nat → Int32) (wt : Nat → Int32) (mi : Int32) (a1 : Int32) (a2 : Int32) : Option (Int32) :=
  fb_b1 (fX1_at th ch nt fg wt mi a1 a2) (fun r2 =>
  fb_b1 (fX1_at th ch nt fg wt mi (a1 - 1) a2) (fun r4 =>
  some (r2 - r4)))
def fX1_isFifth (th : Int32) (ch : Int32) (nt : Nat → Int32) (fg : Nat → Int32) (wt : Nat → Int32) (mi : Int32) (a1 : Int32) (a2 : Int32) (a3 : Int32) : Option (Int32) :=
  fb_b1 (fX1_at th ch nt fg wt mi a1 a3) (fun r2 =>
  fb_b1 (fX1_pitchOf th ch nt fg wt mi r2) (fun r4 =>
  fb_b1 (fX1_at th ch nt fg wt mi a1 a2) (fun r6 =>
  fb_b1 (fX1_pitchOf th ch nt fg wt mi r6) (fun r8 =>
  if (r4 - r8) ≤ 0 then
    some 0
  else
    if ((r4 - r8) - (r4 - r8) / 12 * 12) = 7 then
      some 1
    else
      some 0))))
def fX1_isOctave (th : Int32) (ch : Int32) (nt : Nat → Int32) (fg : Nat → Int32) (wt : Nat → Int32) (mi : Int32) (a1 : Int32) (a2 : Int32) (a3 : Int32) : Option (Int32) :=
  fb_b1 (fX1_at th ch nt fg wt mi a1 a3) (fun r2 =>
  fb_b1 (fX1_pitchOf th ch nt fg wt mi r2) (fun r4 =>
  fb_b1 (fX1_at th ch nt fg wt mi a1 a2) (fun r6 =>
  fb_b1 (fX1_pitchOf th ch nt fg wt mi r6) (fun r8 =>
  if ((r4 - r8) - (r4 - r8) / 12 * 12) = 0 then
    some 1
  else
    some 0))))
def fX1_isPair (th : Int32) (ch : Int32) (nt : Nat → Int32) (fg : Nat → Int32) (wt : Nat → Int32) (mi : Int32) (a1 : Int32) : Option (Int32) :=
  if a1 ≤ 0 then
    some 0
  else
    fb_b1 (fX1_isSet th ch nt fg wt mi a1) (fun r4 =>
    if r4 = 0 then
      some 0
    else
      fb_b1 (fX1_isSet th ch nt fg wt mi (a1 - 1)) (fun r8 =>
      if r8 = 0 then
        some 0
      else
        some 1))
def lpX1_parallels_17 (a1 : Int32) (a2 : Int32) (th : Int32) (ch : Int32) (nt : Nat → Int32) (fg : Nat → Int32) (wt : Nat → Int32) (mi : Int32) (v1 : Int32) : Nat → (Int32) → (Int32) → Option (Int32 × Int32)
  | 0, _, _ => none
  | n + 1, v4, v5 =>
    if 4 ≤ v4 then
    some (v4, v5)
  else
    fb_b1 (fX1_goes th ch nt fg wt mi a1 v1) (fun r8 =>
    fb_b1 (if r8 = 0 then
        some v5
      else
        fb_b1 (fX1_goes th ch nt fg wt mi a1 v4) (fun r11 =>
        if r11 = 0 then
          some v5
        else
          fb_b1 (if a2 = 0 then
              fb_b1 (fX1_isOctave th ch nt fg wt mi (a1 - 1) v1 v4) (fun r15 =>
              if r15 = 0 then
                some 0
              else
                fb_b1 (fX1_isOctave th ch nt fg wt mi a1 v1 v4) (fun r18 =>
                if r18 = 0 then
                  some 0
                else
                  some 1))
            else
              fb_b1 (fX1_isFifth th ch nt fg wt mi (a1 - 1) v1 v4) (fun r21 =>
              if r21 = 0 then
                some 0
              else
                fb_b1 (fX1_isFifth th ch nt fg wt mi a1 v1 v4) (fun r24 =>
                if r24 = 0 then
                  some 0
                else
                  some 1))) (fun (j26 : Int32) =>
          some (v5 + j26)))) (fun (j27 : Int32) =>
    lpX1_parallels_17 a1 a2 th ch nt fg wt mi v1 n (v4 + 1) j27))
def lpX1_parallels_5 (a1 : Int32) (a2 : Int32) (th : Int32) (ch : Int32) (nt : Nat → Int32) (fg : Nat → Int32) (wt : Nat → Int32) (mi : Int32) : Nat → (Int32) → (Int32) → Option (Int32 × Int32)
  | 0, _, _ => none
  | n + 1, v1, v2 =>
    if 4 ≤ v1 then
    some (v1, v2)
  else
    fb_b2 (lpX1_parallels_17 a1 a2 th ch nt fg wt mi v1 14 (v1 + 1) v2) (fun o28 o29 =>
    lpX1_parallels_5 a1 a2 th ch nt fg wt mi n (v1 + 1) o29)
def fX1_parallels (th : Int32) (ch : Int32) (nt : Nat → Int32) (fg : Nat → Int32) (wt : Nat → Int32) (mi : Int32) (a1 : Int32) (a2 : Int32) : Option (Int32) :=
  fb_b2 (lpX1_parallels_5 a1 a2 th ch nt fg wt mi 14 0 0) (fun o31 o32 =>
  some o32)
def fX1_isHidden (th : Int32) (ch : Int32) (nt : Nat → Int32) (fg : Nat → Int32) (wt : Nat → Int32) (mi : Int32) (a1 : Int32) : Option (Int32) :=
  fb_b1 (fX1_goes th ch nt fg wt mi a1 0) (fun r2 =>
  fb_b1 (fX1_goes th ch nt fg wt mi a1 3) (fun r4 =>
  if (r2 * r4) ≤ 0 then
    some 0
  else
    if (if 0 ≤ r4 then r4 else 0 - r4) ≤ 1 then
      some 0
    else
      fb_b1 (fX1_isFifth th ch nt fg wt mi a1 0 3) (fun r10 =>
      if r10 = 0 then
        fb_b1 (fX1_isOctave th ch nt fg wt mi a1 0 3) (fun r14 =>
        if r14 = 0 then
          some 0
        else
          some 1)
      else
        some 1)))
def fX1_isFault (th : Int32) (ch : Int32) (nt : Nat → Int32) (fg : Nat → Int32) (wt : Nat → Int32) (mi : Int32) (a1 : Int32) (a2 : Int32) (a3 : Int32) : Option (Int32) :=
  fb_b1 (fX1_goes th ch nt fg wt mi a1 a3) (fun r2 =>
  fb_b1 (fX1_at th ch nt fg wt mi (a1 - 1) a3) (fun r4 =>
  fb_b1 (fX1_at th ch nt fg wt mi (a1 - 1) 0) (fun r6 =>
  fb_b1 (fX1_step r4 r6) (fun r8 =>
  if a2 = 3 then
    fb_ck (fb_ix a1 12) (
    if (fg a1.toNatClampNeg) = 4 then
      fb_b1 (fX1_at th ch nt fg wt mi a1 a3) (fun r14 =>
      fb_b1 (fX1_at th ch nt fg wt mi a1 0) (fun r16 =>
      fb_b1 (fX1_step r14 r16) (fun r18 =>
      if r18 = 3 then
        if r2 = 0 then
          some 0
        else
          some 1
      else
        some 0)))
    else
      some 0)
  else if a2 = 4 then
    fb_ck (fb_ix (a1 - 1) 12) (
    if (fg (a1 - 1).toNatClampNeg) = 4 then
      if r8 = 3 then
        if r2 = (-1) then
          some 0
        else
          some 1
      else
        some 0
    else
      some 0)
  else if a2 = 5 then
    fb_b1 (fX1_at th ch nt fg wt mi a1 0) (fun r33 =>
    if (r33 - r33 / 7 * 7) = 0 then
      fb_b1 (fX1_at th ch nt fg wt mi (a1 - 1) a3) (fun r37 =>
      if (r37 - r37 / 7 * 7) = 6 then
        if r2 = 1 then
          some 0
        else
          some 1
      else
        some 0)
    else
      some 0)
  else if a2 = 6 then
    fb_ck (fb_ix (a1 - 1) 12) (
    if (fg (a1 - 1).toNatClampNeg) = 3 then
      if r8 = 6 then
        if r2 = 0 then
          some 0
        else
          if r2 = (-1) then
            some 0
          else
            some 1
      else
        some 0
    else
      some 0)
  else 
    if (if 0 ≤ r2 then r2 else 0 - r2) ≤ 4 then
      some 0
    else
      some 1))))
def lpX1_faultsOf_54 (a1 : Int32) (a2 : Int32) (th : Int32) (ch : Int32) (nt : Nat → Int32) (fg : Nat → Int32) (wt : Nat → Int32) (mi : Int32) : Nat → (Int32) → (Int32) → Option (Int32 × Int32)
  | 0, _, _ => none
  | n + 1, v6, v7 =>
    if 4 ≤ v6 then
    some (v6, v7)
  else
    fb_b1 (fX1_isFault th ch nt fg wt mi a1 a2 v6) (fun r10 =>
    fb_b1 (if r10 = 0 then
        some 0
      else
        some 1) (fun (j12 : Int32) =>
    lpX1_faultsOf_54 a1 a2 th ch nt fg wt mi n (v6 + 1) (v7 + j12)))
def fX1_faultsOf (th : Int32) (ch : Int32) (nt : Nat → Int32) (fg : Nat → Int32) (wt : Nat → Int32) (mi : Int32) (a1 : Int32) (a2 : Int32) : Option (Int32) :=
  fb_b1 (fX1_isPair th ch nt fg wt mi a1) (fun r2 =>
  if r2 = 0 then
    some 0
  else
    if 2 ≤ a2 then
      if a2 = 2 then
        fb_b1 (fX1_isHidden th ch nt fg wt mi a1) (fun r18 =>
        if r18 = 0 then
          some 0
        else
          some 1)
      else
        fb_b2 (lpX1_faultsOf_54 a1 a2 th ch nt fg wt mi 14 1 0) (fun o13 o14 =>
        some o14)
    else
      fb_b1 (if a2 = 0 then
          some 1
        else
          some 0) (fun (j23 : Int32) =>
      fb_b1 (fX1_parallels th ch nt fg wt mi a1 j23) (fun r25 =>
      some r25)))
def lpX1_steps_4 (a1 : Int32) (th : Int32) (ch : Int32) (nt : Nat → Int32) (fg : Nat → Int32) (wt : Nat → Int32) (mi : Int32) : Nat → (Int32) → (Int32) → Option (Int32 × Int32)
  | 0, _, _ => none
  | n + 1, v1, v2 =>
    if 4 ≤ v1 then
    some (v1, v2)
  else
    fb_b1 (fX1_isPair th ch nt fg wt mi a1) (fun r5 =>
    if r5 = 0 then
      some (v1, v2)
    else
      fb_b1 (fX1_goes th ch nt fg wt mi a1 v1) (fun r8 =>
      lpX1_steps_4 a1 th ch nt fg wt mi n (v1 + 1) (v2 + (if 0 ≤ r8 then r8 else 0 - r8))))
def fX1_steps (th : Int32) (ch : Int32) (nt : Nat → Int32) (fg : Nat → Int32) (wt : Nat → Int32) (mi : Int32) (a1 : Int32) : Option (Int32) :=
  fb_b2 (lpX1_steps_4 a1 th ch nt fg wt mi 14 1 0) (fun o9 o10 =>
  some o10)
def lpX1_cost_33 (a1 : Int32) (th : Int32) (ch : Int32) (nt : Nat → Int32) (fg : Nat → Int32) (wt : Nat → Int32) (mi : Int32) : Nat → (Int32) → (Int32) → Option (Int32 × Int32)
  | 0, _, _ => none
  | n + 1, v10, v11 =>
    if 8 ≤ v10 then
    some (v10, v11)
  else
    fb_ck (fb_ix v10 8) (
    fb_b1 (fX1_faultsOf th ch nt fg wt mi a1 v10) (fun r15 =>
    lpX1_cost_33 a1 th ch nt fg wt mi n (v10 + 1) (v11 + ((wt v10.toNatClampNeg) * r15))))
def fX1_cost (th : Int32) (ch : Int32) (nt : Nat → Int32) (fg : Nat → Int32) (wt : Nat → Int32) (mi : Int32) (a1 : Int32) : Option (Int32) :=
  fb_b1 (fX1_isSet th ch nt fg wt mi a1) (fun r2 =>
  if r2 = 0 then
    some 0
  else
    fb_b1 (fX1_steps th ch nt fg wt mi a1) (fun r5 =>
    fb_b1 (fX1_isRight th ch nt fg wt mi a1) (fun r7 =>
    fb_b1 (if r7 = 0 then
        some 30
      else
        some 0) (fun (j9 : Int32) =>
    fb_b2 (lpX1_cost_33 a1 th ch nt fg wt mi 14 0 (r5 + j9)) (fun o16 o17 =>
    some o17)))))
def fX1_let (th : Int32) (ch : Int32) (nt : Nat → Int32) (fg : Nat → Int32) (wt : Nat → Int32) (mi : Int32) (a1 : Int32) (a2 : Int32) (a3 : Int32) (a4 : Int32) : Option ((Nat → Int32)) :=
  fb_ck (fb_ix (((4 : Int32) * a1) + 1) 48) (
  fb_ck (fb_ix (((4 : Int32) * a1) + 2) 48) (
  fb_ck (fb_ix (((4 : Int32) * a1) + 3) 48) (
  some (upd (upd (upd nt (((4 : Int32) * a1) + 1).toNatClampNeg a2) (((4 : Int32) * a1) + 2).toNatClampNeg a3) (((4 : Int32) * a1) + 3).toNatClampNeg a4))))
def lpX1_led_144 (a1 : Int32) (th : Int32) (ch : Int32) (fg : Nat → Int32) (wt : Nat → Int32) (mi : Int32) (v9 : Int32) (v19 : Int32) : Nat → (Int32) → (Nat → Int32) → (Nat → Int32) → Option (Int32 × (Nat → Int32) × (Nat → Int32))
  | 0, _, _, _ => none
  | n + 1, v28, nt_29, f30 =>
    if (fb_tX1_HIGH (3 : Int32).toNatClampNeg) < v28 then
    some (v28, nt_29, f30)
  else
    fb_b1 (fX1_let th ch nt_29 fg wt mi a1 v9 v19 v28) (fun nt_33 =>
    fb_b1 (fX1_isRight th ch nt_33 fg wt mi a1) (fun r35 =>
    fb_b1 (if r35 = 0 then
        some f30
      else
        fb_b1 (fX1_cost th ch nt_33 fg wt mi a1) (fun r38 =>
        fb_b1 (if ch ≤ (a1 + 1) then
            some 0
          else
            fb_b1 (fX1_cost th ch nt_33 fg wt mi (a1 + 1)) (fun r41 =>
            some r41)) (fun (j42 : Int32) =>
        if ((upd f30 (2 : Int32).toNatClampNeg ((f30 (2 : Int32).toNatClampNeg) + 1)) (0 : Int32).toNatClampNeg) = (-1) then
          some (upd (upd (upd f30 (2 : Int32).toNatClampNeg ((f30 (2 : Int32).toNatClampNeg) + 1)) (0 : Int32).toNatClampNeg ((((784 : Int32) * v9) + ((28 : Int32) * v19)) + v28)) (1 : Int32).toNatClampNeg (r38 + j42))
        else
          if (r38 + j42) < ((upd f30 (2 : Int32).toNatClampNeg ((f30 (2 : Int32).toNatClampNeg) + 1)) (1 : Int32).toNatClampNeg) then
            some (upd (upd (upd f30 (2 : Int32).toNatClampNeg ((f30 (2 : Int32).toNatClampNeg) + 1)) (0 : Int32).toNatClampNeg ((((784 : Int32) * v9) + ((28 : Int32) * v19)) + v28)) (1 : Int32).toNatClampNeg (r38 + j42))
          else
            some (upd f30 (2 : Int32).toNatClampNeg ((f30 (2 : Int32).toNatClampNeg) + 1))))) (fun (f45 : Nat → Int32) =>
    lpX1_led_144 a1 th ch fg wt mi v9 v19 n (v28 + 1) nt_33 f45)))
def lpX1_led_99 (a1 : Int32) (th : Int32) (ch : Int32) (fg : Nat → Int32) (wt : Nat → Int32) (mi : Int32) (v9 : Int32) : Nat → (Int32) → (Nat → Int32) → (Nat → Int32) → Option (Int32 × (Nat → Int32) × (Nat → Int32))
  | 0, _, _, _ => none
  | n + 1, v19, nt_20, f21 =>
    if (fb_tX1_HIGH (2 : Int32).toNatClampNeg) < v19 then
    some (v19, nt_20, f21)
  else
    fb_b1 (fX1_at th ch nt_20 fg wt mi a1 0) (fun r24 =>
    fb_b1 (fX1_belongs v19 r24 (fg a1.toNatClampNeg)) (fun r26 =>
    fb_b2 (if r26 = 0 then
        some (nt_20, f21)
      else
        fb_b3 (lpX1_led_144 a1 th ch fg wt mi v9 v19 14 (if v19 < (fb_tX1_LOW (3 : Int32).toNatClampNeg) then (fb_tX1_LOW (3 : Int32).toNatClampNeg) else v19) nt_20 f21) (fun o46 o47 o48 =>
        some (o47, o48))) (fun (nt_50 : Nat → Int32) (f51 : Nat → Int32) =>
    lpX1_led_99 a1 th ch fg wt mi v9 n (v19 + 1) nt_50 f51)))
def lpX1_led_54 (a1 : Int32) (th : Int32) (ch : Int32) (fg : Nat → Int32) (wt : Nat → Int32) (mi : Int32) : Nat → (Int32) → (Nat → Int32) → (Nat → Int32) → Option (Int32 × (Nat → Int32) × (Nat → Int32))
  | 0, _, _, _ => none
  | n + 1, v9, nt_10, f11 =>
    if (fb_tX1_HIGH (1 : Int32).toNatClampNeg) < v9 then
    some (v9, nt_10, f11)
  else
    fb_b1 (fX1_at th ch nt_10 fg wt mi a1 0) (fun r14 =>
    fb_ck (fb_ix a1 12) (
    fb_b1 (fX1_belongs v9 r14 (fg a1.toNatClampNeg)) (fun r17 =>
    fb_b2 (if r17 = 0 then
        some (nt_10, f11)
      else
        fb_b3 (lpX1_led_99 a1 th ch fg wt mi v9 14 (if v9 < (fb_tX1_LOW (2 : Int32).toNatClampNeg) then (fb_tX1_LOW (2 : Int32).toNatClampNeg) else v9) nt_10 f11) (fun o52 o53 o54 =>
        some (o53, o54))) (fun (nt_56 : Nat → Int32) (f57 : Nat → Int32) =>
    lpX1_led_54 a1 th ch fg wt mi n (v9 + 1) nt_56 f57))))
def fX1_led (th : Int32) (ch : Int32) (nt : Nat → Int32) (fg : Nat → Int32) (wt : Nat → Int32) (mi : Int32) (a1 : Int32) : Option ((Nat → Int32) × (Nat → Int32)) :=
  fb_b1 (fX1_at th ch nt fg wt mi a1 1) (fun r3 =>
  fb_b1 (fX1_at th ch nt fg wt mi a1 2) (fun r5 =>
  fb_b1 (fX1_at th ch nt fg wt mi a1 3) (fun r7 =>
  fb_b3 (lpX1_led_54 a1 th ch fg wt mi 14 (fb_tX1_LOW (1 : Int32).toNatClampNeg) nt (upd (upd (upd (fun _ => 0) (0 : Int32).toNatClampNeg (-1)) (1 : Int32).toNatClampNeg 0) (2 : Int32).toNatClampNeg 0)) (fun o58 o59 o60 =>
  fb_b1 (fX1_let th ch o59 fg wt mi a1 ((upd (upd (upd (fun _ => 0) (0 : Int32).toNatClampNeg r3) (1 : Int32).toNatClampNeg r5) (2 : Int32).toNatClampNeg r7) (0 : Int32).toNatClampNeg) ((upd (upd (upd (fun _ => 0) (0 : Int32).toNatClampNeg r3) (1 : Int32).toNatClampNeg r5) (2 : Int32).toNatClampNeg r7) (1 : Int32).toNatClampNeg) ((upd (upd (upd (fun _ => 0) (0 : Int32).toNatClampNeg r3) (1 : Int32).toNatClampNeg r5) (2 : Int32).toNatClampNeg r7) (2 : Int32).toNatClampNeg)) (fun nt_62 =>
  some (nt_62, o60))))))
def fX1_isLed (th : Int32) (ch : Int32) (nt : Nat → Int32) (fg : Nat → Int32) (wt : Nat → Int32) (mi : Int32) (a1 : Int32) : Option (Int32 × (Nat → Int32)) :=
  fb_b2 (fX1_led th ch nt fg wt mi a1) (fun nt_2 f3 =>
  fb_b1 (if (f3 (0 : Int32).toNatClampNeg) = (-1) then
      some nt_2
    else
      fb_b1 (fX1_let th ch nt_2 fg wt mi a1 ((f3 (0 : Int32).toNatClampNeg) / 784) (((f3 (0 : Int32).toNatClampNeg) / 28) - ((f3 (0 : Int32).toNatClampNeg) / 28) / 28 * 28) ((f3 (0 : Int32).toNatClampNeg) - (f3 (0 : Int32).toNatClampNeg) / 28 * 28)) (fun nt_7 =>
      some nt_7)) (fun (nt_8 : Nat → Int32) =>
  if (f3 (0 : Int32).toNatClampNeg) = (-1) then
    some (0, nt_8)
  else
    some (1, nt_8)))
def fX1_chord (th : Int32) (ch : Int32) (nt : Nat → Int32) (fg : Nat → Int32) (wt : Nat → Int32) (mi : Int32) (a1 : Int32) (a2 : Int32) : Option (Int32 × Int32 × Int32 × (Nat → Int32) × (Nat → Int32)) :=
  fb_b1 (fX1_isOf 0 a1) (fun r2 =>
  if r2 = 0 then
    fb_b2 (fX1_no 0 ch nt fg wt mi 1) (fun r5 th_6 =>
    some (r5, th_6, ch, nt, fg))
  else
    fb_b1 (fX1_isIn a2 0 5) (fun r9 =>
    if r9 = 0 then
      fb_b2 (fX1_no 0 ch nt fg wt mi 1) (fun r22 th_23 =>
      some (r22, th_23, ch, nt, fg))
    else
      if ch = 12 then
        fb_b2 (fX1_no 0 ch nt fg wt mi 2) (fun r18 th_19 =>
        some (r18, th_19, ch, nt, fg))
      else
        fb_ck (fb_ix ((4 : Int32) * ch) 48) (
        fb_b1 (fX1_let 0 ch (upd nt ((4 : Int32) * ch).toNatClampNeg a1) fg wt mi ch (-1) (-1) (-1)) (fun nt_14 =>
        fb_ck (fb_ix ch 12) (
        some ((ch + 1) - 1, 0, ch + 1, nt_14, upd fg ch.toNatClampNeg a2))))))
def fX1_setBass (th : Int32) (ch : Int32) (nt : Nat → Int32) (fg : Nat → Int32) (wt : Nat → Int32) (mi : Int32) (a1 : Int32) (a2 : Int32) : Option (Int32 × Int32 × (Nat → Int32)) :=
  fb_b1 (fX1_isChord 0 ch nt fg wt mi a1) (fun r2 =>
  if r2 = 0 then
    fb_b2 (fX1_no 0 ch nt fg wt mi 1) (fun r16 th_17 =>
    some (r16, th_17, nt))
  else
    fb_b1 (fX1_isOf 0 a2) (fun r5 =>
    if r5 = 0 then
      fb_b2 (fX1_no 0 ch nt fg wt mi 2) (fun r12 th_13 =>
      some (r12, th_13, nt))
    else
      fb_b1 (fX1_at 0 ch nt fg wt mi a1 0) (fun r8 =>
      fb_ck (fb_ix ((4 : Int32) * a1) 48) (
      some (r8, 0, upd nt ((4 : Int32) * a1).toNatClampNeg a2)))))
def fX1_setFigure (th : Int32) (ch : Int32) (nt : Nat → Int32) (fg : Nat → Int32) (wt : Nat → Int32) (mi : Int32) (a1 : Int32) (a2 : Int32) : Option (Int32 × Int32 × (Nat → Int32)) :=
  fb_b1 (fX1_isChord 0 ch nt fg wt mi a1) (fun r2 =>
  if r2 = 0 then
    fb_b2 (fX1_no 0 ch nt fg wt mi 1) (fun r14 th_15 =>
    some (r14, th_15, fg))
  else
    fb_b1 (fX1_isIn a2 0 5) (fun r5 =>
    if r5 = 0 then
      fb_b2 (fX1_no 0 ch nt fg wt mi 2) (fun r10 th_11 =>
      some (r10, th_11, fg))
    else
      fb_ck (fb_ix a1 12) (
      some (fg a1.toNatClampNeg, 0, upd fg a1.toNatClampNeg a2))))
def fX1_put (th : Int32) (ch : Int32) (nt : Nat → Int32) (fg : Nat → Int32) (wt : Nat → Int32) (mi : Int32) (a1 : Int32) (a2 : Int32) (a3 : Int32) : Option (Int32 × Int32 × (Nat → Int32)) :=
  fb_b1 (fX1_isChord 0 ch nt fg wt mi a1) (fun r2 =>
  if r2 = 0 then
    fb_b2 (fX1_no 0 ch nt fg wt mi 1) (fun r5 th_6 =>
    some (r5, th_6, nt))
  else
    fb_b1 (fX1_isIn a2 1 3) (fun r9 =>
    if r9 = 0 then
      fb_b2 (fX1_no 0 ch nt fg wt mi 1) (fun r28 th_29 =>
      some (r28, th_29, nt))
    else
      if a3 = (-1) then
        fb_b1 (fX1_at 0 ch nt fg wt mi a1 a2) (fun r13 =>
        fb_ck (fb_ix (((4 : Int32) * a1) + a2) 48) (
        some (r13, 0, upd nt (((4 : Int32) * a1) + a2).toNatClampNeg a3)))
      else
        fb_b1 (fX1_isOf a2 a3) (fun r17 =>
        if r17 = 0 then
          fb_b2 (fX1_no 0 ch nt fg wt mi 2) (fun r24 th_25 =>
          some (r24, th_25, nt))
        else
          fb_b1 (fX1_at 0 ch nt fg wt mi a1 a2) (fun r20 =>
          fb_ck (fb_ix (((4 : Int32) * a1) + a2) 48) (
          some (r20, 0, upd nt (((4 : Int32) * a1) + a2).toNatClampNeg a3))))))
def fX1_drop (th : Int32) (ch : Int32) (nt : Nat → Int32) (fg : Nat → Int32) (wt : Nat → Int32) (mi : Int32) : Option (Int32 × Int32 × Int32) :=
  if ch = 0 then
    fb_b2 (fX1_no 0 ch nt fg wt mi 1) (fun r4 th_5 =>
    some (r4, th_5, ch))
  else
    some (ch - 1, 0, ch - 1)
def fX1_setKey (th : Int32) (ch : Int32) (nt : Nat → Int32) (fg : Nat → Int32) (wt : Nat → Int32) (mi : Int32) (a1 : Int32) : Option (Int32 × Int32 × Int32) :=
  fb_ck (fb_z a1) (
  fb_ck (fb_z mi) (some (mi, 0, a1)))
def fX1_setWeight (th : Int32) (ch : Int32) (nt : Nat → Int32) (fg : Nat → Int32) (wt : Nat → Int32) (mi : Int32) (a1 : Int32) (a2 : Int32) : Option (Int32 × Int32 × (Nat → Int32)) :=
  fb_b1 (fX1_isIn a1 0 7) (fun r2 =>
  if r2 = 0 then
    fb_b2 (fX1_no 0 ch nt fg wt mi 1) (fun r14 th_15 =>
    some (r14, th_15, wt))
  else
    fb_b1 (fX1_isIn a2 0 9) (fun r5 =>
    if r5 = 0 then
      fb_b2 (fX1_no 0 ch nt fg wt mi 2) (fun r10 th_11 =>
      some (r10, th_11, wt))
    else
      fb_ck (fb_ix a1 8) (
      some (wt a1.toNatClampNeg, 0, upd wt a1.toNatClampNeg a2))))
def fX1_lead (th : Int32) (ch : Int32) (nt : Nat → Int32) (fg : Nat → Int32) (wt : Nat → Int32) (mi : Int32) (a1 : Int32) : Option (Int32 × Int32 × (Nat → Int32)) :=
  fb_b1 (fX1_isChord 0 ch nt fg wt mi a1) (fun r2 =>
  if r2 = 0 then
    fb_b2 (fX1_no 0 ch nt fg wt mi 1) (fun r16 th_17 =>
    some (r16, th_17, nt))
  else
    fb_b2 (fX1_isLed 0 ch nt fg wt mi a1) (fun r5 nt_6 =>
    if r5 = 0 then
      fb_b2 (fX1_no 0 ch nt_6 fg wt mi 2) (fun r9 th_10 =>
      some (r9, th_10, nt_6))
    else
      fb_b1 (fX1_cost 0 ch nt_6 fg wt mi a1) (fun r13 =>
      some (r13, 0, nt_6))))
def lpX1_leadAll_9 (ch : Int32) (fg : Nat → Int32) (wt : Nat → Int32) (mi : Int32) : Nat → (Int32) → (Int32) → (Nat → Int32) → Option (Int32 × Int32 × (Nat → Int32))
  | 0, _, _, _ => none
  | n + 1, v1, v2, nt_3 =>
    if ch ≤ v1 then
    some (v1, v2, nt_3)
  else
    fb_b2 (fX1_isLed 0 ch nt_3 fg wt mi v1) (fun r6 nt_7 =>
    fb_b1 (if r6 = 0 then
        some 0
      else
        some 1) (fun (j9 : Int32) =>
    lpX1_leadAll_9 ch fg wt mi n (v1 + 1) (v2 + j9) nt_7))
def fX1_leadAll (th : Int32) (ch : Int32) (nt : Nat → Int32) (fg : Nat → Int32) (wt : Nat → Int32) (mi : Int32) : Option (Int32 × Int32 × (Nat → Int32)) :=
  fb_b3 (lpX1_leadAll_9 ch fg wt mi 14 0 0 nt) (fun o10 o11 o12 =>
  some (o11, 0, o12))
def fX1_note (th : Int32) (ch : Int32) (nt : Nat → Int32) (fg : Nat → Int32) (wt : Nat → Int32) (mi : Int32) (a1 : Int32) (a2 : Int32) : Option (Int32 × Int32) :=
  fb_b1 (fX1_isChord 0 ch nt fg wt mi a1) (fun r2 =>
  if r2 = 0 then
    fb_b2 (fX1_no 0 ch nt fg wt mi 1) (fun r5 th_6 =>
    some (r5, th_6))
  else
    fb_b1 (fX1_isIn a2 0 3) (fun r9 =>
    if r9 = 0 then
      fb_b2 (fX1_no 0 ch nt fg wt mi 1) (fun r12 th_13 =>
      some (r12, th_13))
    else
      fb_b1 (fX1_at 0 ch nt fg wt mi a1 a2) (fun r16 =>
      some (r16, 0))))
def fX1_chordTold (th : Int32) (ch : Int32) (nt : Nat → Int32) (fg : Nat → Int32) (wt : Nat → Int32) (mi : Int32) (a1 : Int32) (a2 : Int32) : Option (Int32) :=
  if a2 = 0 then
    fb_ck (fb_ix a1 12) (
    some (fg a1.toNatClampNeg))
  else if a2 = 1 then
    fb_b1 (fX1_at th ch nt fg wt mi a1 0) (fun r5 =>
    some (r5 - r5 / 7 * 7))
  else if a2 = 2 then
    fb_b1 (fX1_isSet th ch nt fg wt mi a1) (fun r8 =>
    if r8 = 0 then
      some 0
    else
      some 1)
  else if a2 = 3 then
    fb_b1 (fX1_isRight th ch nt fg wt mi a1) (fun r13 =>
    if r13 = 0 then
      some 0
    else
      some 1)
  else if a2 = 4 then
    fb_b1 (fX1_steps th ch nt fg wt mi a1) (fun r18 =>
    some r18)
  else 
    fb_b1 (fX1_cost th ch nt fg wt mi a1) (fun r21 =>
    some r21)
def fX1_told (th : Int32) (ch : Int32) (nt : Nat → Int32) (fg : Nat → Int32) (wt : Nat → Int32) (mi : Int32) (a1 : Int32) (a2 : Int32) : Option (Int32 × Int32) :=
  fb_b1 (fX1_isChord 0 ch nt fg wt mi a1) (fun r2 =>
  if r2 = 0 then
    fb_b2 (fX1_no 0 ch nt fg wt mi 1) (fun r5 th_6 =>
    some (r5, th_6))
  else
    fb_b1 (fX1_isIn a2 0 5) (fun r9 =>
    if r9 = 0 then
      fb_b2 (fX1_no 0 ch nt fg wt mi 1) (fun r12 th_13 =>
      some (r12, th_13))
    else
      fb_b1 (fX1_chordTold 0 ch nt fg wt mi a1 a2) (fun r16 =>
      some (r16, 0))))
def fX1_faults (th : Int32) (ch : Int32) (nt : Nat → Int32) (fg : Nat → Int32) (wt : Nat → Int32) (mi : Int32) (a1 : Int32) (a2 : Int32) : Option (Int32 × Int32) :=
  fb_b1 (fX1_isChord 0 ch nt fg wt mi a1) (fun r2 =>
  if r2 = 0 then
    fb_b2 (fX1_no 0 ch nt fg wt mi 1) (fun r5 th_6 =>
    some (r5, th_6))
  else
    fb_b1 (fX1_isIn a2 0 7) (fun r9 =>
    if r9 = 0 then
      fb_b2 (fX1_no 0 ch nt fg wt mi 1) (fun r12 th_13 =>
      some (r12, th_13))
    else
      fb_b1 (fX1_faultsOf 0 ch nt fg wt mi a1 a2) (fun r16 =>
      some (r16, 0))))
def lpX1_all_4 (a1 : Int32) (th : Int32) (ch : Int32) (nt : Nat → Int32) (fg : Nat → Int32) (wt : Nat → Int32) (mi : Int32) : Nat → (Int32) → (Int32) → Option (Int32 × Int32)
  | 0, _, _ => none
  | n + 1, v1, v2 =>
    if ch ≤ v1 then
    some (v1, v2)
  else
    fb_b1 (fX1_chordTold th ch nt fg wt mi v1 a1) (fun r5 =>
    lpX1_all_4 a1 th ch nt fg wt mi n (v1 + 1) (v2 + r5))
def fX1_all (th : Int32) (ch : Int32) (nt : Nat → Int32) (fg : Nat → Int32) (wt : Nat → Int32) (mi : Int32) (a1 : Int32) : Option (Int32) :=
  fb_b2 (lpX1_all_4 a1 th ch nt fg wt mi 14 0 0) (fun o6 o7 =>
  some o7)
def lpX1_allFaults_4 (th : Int32) (ch : Int32) (nt : Nat → Int32) (fg : Nat → Int32) (wt : Nat → Int32) (mi : Int32) : Nat → (Int32) → (Int32) → Option (Int32 × Int32)
  | 0, _, _ => none
  | n + 1, v1, v2 =>
    if ((8 : Int32) * ch) ≤ v1 then
    some (v1, v2)
  else
    fb_b1 (fX1_faultsOf th ch nt fg wt mi (v1 / 8) (v1 - v1 / 8 * 8)) (fun r5 =>
    lpX1_allFaults_4 th ch nt fg wt mi n (v1 + 1) (v2 + r5))
def fX1_allFaults (th : Int32) (ch : Int32) (nt : Nat → Int32) (fg : Nat → Int32) (wt : Nat → Int32) (mi : Int32) : Option (Int32) :=
  fb_b2 (lpX1_allFaults_4 th ch nt fg wt mi 100 0 0) (fun o6 o7 =>
  some o7)
def fX1_counted (th : Int32) (ch : Int32) (nt : Nat → Int32) (fg : Nat → Int32) (wt : Nat → Int32) (mi : Int32) (a1 : Int32) : Option (Int32) :=
  if a1 = 0 then
    some ch
  else if a1 = 1 then
    fb_b1 (fX1_all th ch nt fg wt mi (a1 + 1)) (fun r4 =>
    some r4)
  else if a1 = 2 then
    fb_b1 (fX1_all th ch nt fg wt mi (a1 + 1)) (fun r7 =>
    some r7)
  else if a1 = 3 then
    fb_b1 (fX1_all th ch nt fg wt mi 4) (fun r10 =>
    some r10)
  else if a1 = 4 then
    fb_b1 (fX1_allFaults th ch nt fg wt mi) (fun r13 =>
    some r13)
  else if a1 = 5 then
    fb_b1 (fX1_all th ch nt fg wt mi 5) (fun r16 =>
    some r16)
  else 
    if mi = 0 then
      some 0
    else
      some 1
def fX1_count (th : Int32) (ch : Int32) (nt : Nat → Int32) (fg : Nat → Int32) (wt : Nat → Int32) (mi : Int32) (a1 : Int32) : Option (Int32 × Int32) :=
  fb_b1 (fX1_isIn a1 0 6) (fun r2 =>
  if r2 = 0 then
    fb_b2 (fX1_no 0 ch nt fg wt mi 1) (fun r5 th_6 =>
    some (r5, th_6))
  else
    fb_b1 (fX1_counted 0 ch nt fg wt mi a1) (fun r9 =>
    some (r9, 0)))
def fX1_pitch (th : Int32) (ch : Int32) (nt : Nat → Int32) (fg : Nat → Int32) (wt : Nat → Int32) (mi : Int32) (a1 : Int32) : Option (Int32 × Int32) :=
  fb_b1 (fX1_isIn a1 0 27) (fun r2 =>
  if r2 = 0 then
    fb_b2 (fX1_no 0 ch nt fg wt mi 1) (fun r5 th_6 =>
    some (r5, th_6))
  else
    fb_b1 (fX1_pitchOf 0 ch nt fg wt mi a1) (fun r9 =>
    some (r9, 0)))
def fX1_fits (th : Int32) (ch : Int32) (nt : Nat → Int32) (fg : Nat → Int32) (wt : Nat → Int32) (mi : Int32) (a1 : Int32) (a2 : Int32) (a3 : Int32) : Option (Int32 × Int32) :=
  fb_b1 (fX1_isChord 0 ch nt fg wt mi a1) (fun r2 =>
  if r2 = 0 then
    fb_b2 (fX1_no 0 ch nt fg wt mi 1) (fun r5 th_6 =>
    if r5 ≤ 0 then
      some (0, th_6)
    else
      some (1, th_6))
  else
    fb_b1 (fX1_isIn a2 1 3) (fun r11 =>
    if r11 = 0 then
      fb_b2 (fX1_no 0 ch nt fg wt mi 1) (fun r35 th_36 =>
      if r35 ≤ 0 then
        some (0, th_36)
      else
        some (1, th_36))
    else
      fb_b1 (fX1_isIn a3 0 27) (fun r14 =>
      if r14 = 0 then
        fb_b2 (fX1_no 0 ch nt fg wt mi 2) (fun r29 th_30 =>
        if r29 ≤ 0 then
          some (0, th_30)
        else
          some (1, th_30))
      else
        fb_b1 (fX1_isOf a2 a3) (fun r17 =>
        if r17 = 0 then
          some (0, 0)
        else
          fb_b1 (fX1_at 0 ch nt fg wt mi a1 0) (fun r21 =>
          fb_ck (fb_ix a1 12) (
          fb_b1 (fX1_belongs a3 r21 (fg a1.toNatClampNeg)) (fun r24 =>
          if r24 = 0 then
            some (0, 0)
          else
            some (1, 0))))))))
def fX1_ways (th : Int32) (ch : Int32) (nt : Nat → Int32) (fg : Nat → Int32) (wt : Nat → Int32) (mi : Int32) (a1 : Int32) : Option (Int32 × Int32 × (Nat → Int32)) :=
  fb_b1 (fX1_isChord 0 ch nt fg wt mi a1) (fun r2 =>
  if r2 = 0 then
    fb_b2 (fX1_no 0 ch nt fg wt mi 1) (fun r5 th_6 =>
    some (r5, th_6, nt))
  else
    fb_b2 (fX1_led 0 ch nt fg wt mi a1) (fun nt_9 f10 =>
    some (f10 (2 : Int32).toNatClampNeg, 0, nt_9)))
def fX1_would (th : Int32) (ch : Int32) (nt : Nat → Int32) (fg : Nat → Int32) (wt : Nat → Int32) (mi : Int32) (a1 : Int32) (a2 : Int32) (a3 : Int32) : Option (Int32 × Int32 × (Nat → Int32)) :=
  fb_b1 (fX1_isChord 0 ch nt fg wt mi a1) (fun r2 =>
  if r2 = 0 then
    fb_b2 (fX1_no 0 ch nt fg wt mi 1) (fun r5 th_6 =>
    some (r5, th_6, nt))
  else
    fb_b1 (fX1_isIn a2 1 3) (fun r9 =>
    if r9 = 0 then
      fb_b2 (fX1_no 0 ch nt fg wt mi 1) (fun r32 th_33 =>
      some (r32, th_33, nt))
    else
      if a3 = (-1) then
        fb_b1 (fX1_at 0 ch nt fg wt mi a1 a2) (fun r13 =>
        fb_ck (fb_ix (((4 : Int32) * a1) + a2) 48) (
        fb_b1 (fX1_all 0 ch (upd nt (((4 : Int32) * a1) + a2).toNatClampNeg a3) fg wt mi 5) (fun r16 =>
        some (r16, 0, upd (upd nt (((4 : Int32) * a1) + a2).toNatClampNeg a3) (((4 : Int32) * a1) + a2).toNatClampNeg r13))))
      else
        fb_b1 (fX1_isOf a2 a3) (fun r19 =>
        if r19 = 0 then
          fb_b2 (fX1_no 0 ch nt fg wt mi 2) (fun r28 th_29 =>
          some (r28, th_29, nt))
        else
          fb_b1 (fX1_at 0 ch nt fg wt mi a1 a2) (fun r22 =>
          fb_ck (fb_ix (((4 : Int32) * a1) + a2) 48) (
          fb_b1 (fX1_all 0 ch (upd nt (((4 : Int32) * a1) + a2).toNatClampNeg a3) fg wt mi 5) (fun r25 =>
          some (r25, 0, upd (upd nt (((4 : Int32) * a1) + a2).toNatClampNeg a3) (((4 : Int32) * a1) + a2).toNatClampNeg r22)))))))
def fX1_best (th : Int32) (ch : Int32) (nt : Nat → Int32) (fg : Nat → Int32) (wt : Nat → Int32) (mi : Int32) (a1 : Int32) : Option (Int32 × Int32 × (Nat → Int32)) :=
  fb_b1 (fX1_isChord 0 ch nt fg wt mi a1) (fun r2 =>
  if r2 = 0 then
    fb_b2 (fX1_no 0 ch nt fg wt mi 1) (fun r5 th_6 =>
    some (r5, th_6, nt))
  else
    fb_b2 (fX1_led 0 ch nt fg wt mi a1) (fun nt_9 f10 =>
    some (f10 (0 : Int32).toNatClampNeg, 0, nt_9)))
def lpX1_advise_34 (a1 : Int32) (ch : Int32) (wt : Nat → Int32) (mi : Int32) : Nat → (Int32) → (Int32) → (Int32) → (Nat → Int32) → (Nat → Int32) → Option (Int32 × Int32 × Int32 × (Nat → Int32) × (Nat → Int32))
  | 0, _, _, _, _, _ => none
  | n + 1, v5, v6, v7, nt_8, fg_9 =>
    if 6 ≤ v5 then
    some (v5, v6, v7, nt_8, fg_9)
  else
    fb_b2 (fX1_led 0 ch nt_8 (upd fg_9 a1.toNatClampNeg v5) wt mi a1) (fun nt_12 f13 =>
    fb_b2 (if (f13 (0 : Int32).toNatClampNeg) = (-1) then
        some (v6, v7)
      else
        if v7 = (-1) then
          some (f13 (1 : Int32).toNatClampNeg, v5)
        else
          if (f13 (1 : Int32).toNatClampNeg) < v6 then
            some (f13 (1 : Int32).toNatClampNeg, v5)
          else
            some (v6, v7)) (fun (j18 : Int32) (j19 : Int32) =>
    lpX1_advise_34 a1 ch wt mi n (v5 + 1) j18 j19 nt_12 (upd fg_9 a1.toNatClampNeg v5)))
def fX1_advise (th : Int32) (ch : Int32) (nt : Nat → Int32) (fg : Nat → Int32) (wt : Nat → Int32) (mi : Int32) (a1 : Int32) : Option (Int32 × Int32 × (Nat → Int32) × (Nat → Int32)) :=
  fb_b1 (fX1_isChord 0 ch nt fg wt mi a1) (fun r2 =>
  if r2 = 0 then
    fb_b2 (fX1_no 0 ch nt fg wt mi 1) (fun r28 th_29 =>
    some (r28, th_29, nt, fg))
  else
    fb_ck (fb_ix a1 12) (
    fb_b5 (lpX1_advise_34 a1 ch wt mi 14 0 0 (-1) nt fg) (fun o20 o21 o22 o23 o24 =>
    some (o22, 0, o23, upd o24 a1.toNatClampNeg (fg a1.toNatClampNeg)))))
def fX1_mean (th : Int32) (ch : Int32) (nt : Nat → Int32) (fg : Nat → Int32) (wt : Nat → Int32) (mi : Int32) : Option (UInt64 × Int32) :=
  fb_b1 (fX1_all 0 ch nt fg wt mi 2) (fun r2 =>
  if r2 = 0 then
    some (FP.dconst0, 0)
  else
    fb_b1 (fX1_all 0 ch nt fg wt mi 5) (fun r5 =>
    fb_b1 (fX1_all 0 ch nt fg wt mi 2) (fun r7 =>
    some (FP.ddiv (FP.i2d r5) (FP.i2d r7), 0))))
def lpX1_digest_11 (ch : Int32) (nt : Nat → Int32) (fg : Nat → Int32) (wt : Nat → Int32) (mi : Int32) : Nat → (Int32) → (Int64) → Option (Int32 × Int64)
  | 0, _, _ => none
  | n + 1, v1, v2 =>
    if 7 ≤ v1 then
    some (v1, v2)
  else
    fb_b1 (fX1_counted 0 ch nt fg wt mi v1) (fun r5 =>
    lpX1_digest_11 ch nt fg wt mi n (v1 + 1) ((v2 * 31) + r5.toInt64))
def lpX1_digest_48 (wt : Nat → Int32) : Nat → (Int32) → (Int64) → Option (Int32 × Int64)
  | 0, _, _ => none
  | n + 1, v8, v9 =>
    if 8 ≤ v8 then
    some (v8, v9)
  else
    fb_ck (fb_ix v8 8) (
    lpX1_digest_48 wt n (v8 + 1) ((v9 * 31) + ((wt v8.toNatClampNeg).toInt64)))
def lpX1_digest_90 (ch : Int32) (fg : Nat → Int32) (wt : Nat → Int32) (mi : Int32) (v14 : Int32) (nt_16 : Nat → Int32) : Nat → (Int32) → (Int64) → Option (Int32 × Int64)
  | 0, _, _ => none
  | n + 1, v18, v19 =>
    if 4 ≤ v18 then
    some (v18, v19)
  else
    fb_b1 (fX1_at 0 ch nt_16 fg wt mi v14 v18) (fun r22 =>
    lpX1_digest_90 ch fg wt mi v14 nt_16 n (v18 + 1) ((v19 * 31) + r22.toInt64))
def lpX1_digest_120 (ch : Int32) (fg : Nat → Int32) (wt : Nat → Int32) (mi : Int32) (v14 : Int32) (nt_16 : Nat → Int32) : Nat → (Int32) → (Int64) → Option (Int32 × Int64)
  | 0, _, _ => none
  | n + 1, v25, v26 =>
    if 6 ≤ v25 then
    some (v25, v26)
  else
    fb_b1 (fX1_chordTold 0 ch nt_16 fg wt mi v14 v25) (fun r29 =>
    lpX1_digest_120 ch fg wt mi v14 nt_16 n (v25 + 1) ((v26 * 31) + r29.toInt64))
def lpX1_digest_151 (ch : Int32) (fg : Nat → Int32) (wt : Nat → Int32) (mi : Int32) (v14 : Int32) (nt_16 : Nat → Int32) : Nat → (Int32) → (Int64) → Option (Int32 × Int64)
  | 0, _, _ => none
  | n + 1, v32, v33 =>
    if 8 ≤ v32 then
    some (v32, v33)
  else
    fb_b1 (fX1_faultsOf 0 ch nt_16 fg wt mi v14 v32) (fun r36 =>
    lpX1_digest_151 ch fg wt mi v14 nt_16 n (v32 + 1) ((v33 * 31) + r36.toInt64))
def lpX1_digest_79 (ch : Int32) (fg : Nat → Int32) (wt : Nat → Int32) (mi : Int32) : Nat → (Int32) → (Int64) → (Nat → Int32) → Option (Int32 × Int64 × (Nat → Int32))
  | 0, _, _, _ => none
  | n + 1, v14, v15, nt_16 =>
    if ch ≤ v14 then
    some (v14, v15, nt_16)
  else
    fb_b2 (lpX1_digest_90 ch fg wt mi v14 nt_16 14 0 v15) (fun o23 o24 =>
    fb_b2 (lpX1_digest_120 ch fg wt mi v14 nt_16 14 0 o24) (fun o30 o31 =>
    fb_b2 (lpX1_digest_151 ch fg wt mi v14 nt_16 14 0 o31) (fun o37 o38 =>
    fb_b2 (fX1_led 0 ch nt_16 fg wt mi v14) (fun nt_40 f41 =>
    lpX1_digest_79 ch fg wt mi n (v14 + 1) ((o38 * 31) + ((f41 (2 : Int32).toNatClampNeg).toInt64)) nt_40))))
def fX1_digest (th : Int32) (ch : Int32) (nt : Nat → Int32) (fg : Nat → Int32) (wt : Nat → Int32) (mi : Int32) : Option (Int64 × Int32 × (Nat → Int32)) :=
  fb_b2 (lpX1_digest_11 ch nt fg wt mi 14 0 1693) (fun o6 o7 =>
  fb_b2 (lpX1_digest_48 wt 14 0 o7) (fun o12 o13 =>
  fb_b3 (lpX1_digest_79 ch fg wt mi 14 0 o13 nt) (fun o46 o47 o48 =>
  some (o47, 0, o48))))
end
section
/-! Contracts, printed by wip/whole/gen.py. -/
abbrev rmX0_isNoteOf : Room := { frames := 0, cells := 0, slots := 0, locals := 0 }
set_option maxHeartbeats 8000000 in
set_option maxRecDepth 100000 in
theorem metX0_isNoteOf (l : Launch) (B0 : Nat) (a1 : Int32) (a2 : Int32) (ro : Int32) (h : fX0_isNoteOf a1 a2 = some ro) : Met l yX0_isNoteOf wsX0_isNoteOf rmX0_isNoteOf (va_Pc [.int a1, .int a2] (fb_os B0 fb_sX0)) (QcRead ro) 0 0 (fun _ => False) := by
  refine Met.ofW (cc := cX0_isNoteOf) (maxL := 2) (ret := (some .boolean)) (by decide) rfl ?_
  intro p e s m args below meth c s₁ B hml hv
  obtain ⟨rfl, hZ⟩ := hv
  have hx := B.exec
  have hb := B.bytes
  have hr := B.returns
  have hts := atoms_spec (ws := wsX0_isNoteOf) B.pre
  have hown : s.vm.findClass RX0 = some m.cls := findClass_of_methodNamed B.named
  have hlocks := B.notSynchronized
  have hAB : ∀ q : Nat, (fun q => B0 ≤ q) q → B0 ≤ q := fun _ h9 => h9
  have hS : va_S (fun q => B0 ≤ q) s.heap s.heap [] := va_S.rf
  obtain ⟨t_HIGHEST, hz_HIGHEST, ht_HIGHEST⟩ := fb_stA_narrow hZ.2.1 hAB
  obtain ⟨t_LOWEST, hz_LOWEST, ht_LOWEST⟩ := fb_stA_narrow hZ.1 hAB
  have w_f139 : (Cond.fieldLink RX0 139 "FiguredBass" "LOWEST" "[I") ∈ wsX0_isNoteOf := List.mem_of_getElem? (i := 1) rfl
  have w_f142 : (Cond.fieldLink RX0 142 "FiguredBass" "HIGHEST" "[I") ∈ wsX0_isNoteOf := List.mem_of_getElem? (i := 2) rfl
  have hl := lv_entry ([.int a1, .int a2]) (n := 2) (Nat.le_of_ble_eq_true rfl)
  rw [lg_entry_eq]
  generalize (lg_sl ([.int a1, .int a2]) ++ List.replicate (2 - (lg_sl ([.int a1, .int a2])).length) Slot.unset).toArray = ls at hl ⊢
  have hl : lv_has ls 2 [(0, .int a1), (1, .int a2)] := hl
  unfold fX0_isNoteOf at h
  refine lv_iload_n hx hb dX0_isNoteOf_0 rfl (lv_at hl 1 rfl) ?_
  refine va_gets hx hb hz_LOWEST hS hown (hts _ w_f139) (fun _ h9 => h9) dX0_isNoteOf_1 ?_
  refine lv_iload_n hx hb dX0_isNoteOf_4 rfl (lv_at hl 0 rfl) ?_
  obtain ⟨hi1, h⟩ := fb_cks h
  refine va_ti hx hb ht_LOWEST hS (fb_ixin hi1) rfl dX0_isNoteOf_5 ?_
  refine lv_icmp_lt (tgt := 22) hx hb dX0_isNoteOf_6 (by decide) (fun c2 => ?_) (fun c2 => ?_)
  · replace h := fb_it c2 h
    refine lv_iconst (v := 0) hx hb dX0_isNoteOf_22 (by decide) ?_
    cases h
    exact W.zret (ty := .boolean) hx hb hr rfl (fun t ht _ => ⟨rfl, ht⟩) (fun q hq => absurd hq List.not_mem_nil) dX0_isNoteOf_23
  · replace h := fb_ie c2 h
    refine lv_iload_n hx hb dX0_isNoteOf_9 rfl (lv_at hl 1 rfl) ?_
    refine va_gets hx hb hz_HIGHEST hS hown (hts _ w_f142) (fun _ h9 => h9) dX0_isNoteOf_10 ?_
    refine lv_iload_n hx hb dX0_isNoteOf_13 rfl (lv_at hl 0 rfl) ?_
    refine va_ti hx hb ht_HIGHEST hS (fb_ixin hi1) rfl dX0_isNoteOf_14 ?_
    refine lv_icmp_gt (tgt := 22) hx hb dX0_isNoteOf_15 (by decide) (fun c4 => ?_) (fun c4 => ?_)
    · replace h := fb_it c4 h
      refine lv_iconst (v := 0) hx hb dX0_isNoteOf_22 (by decide) ?_
      cases h
      exact W.zret (ty := .boolean) hx hb hr rfl (fun t ht _ => ⟨rfl, ht⟩) (fun q hq => absurd hq List.not_mem_nil) dX0_isNoteOf_23
    · replace h := fb_ie c4 h
      refine lv_iconst (v := 1) hx hb dX0_isNoteOf_18 (by decide) ?_
      refine lv_goto (tgt := 23) hx hb dX0_isNoteOf_19 (by decide) ?_
      cases h
      exact W.zret (ty := .boolean) hx hb hr rfl (fun t ht _ => ⟨rfl, ht⟩) (fun q hq => absurd hq List.not_mem_nil) dX0_isNoteOf_23
abbrev rmX0_isFigure : Room := { frames := 0, cells := 0, slots := 0, locals := 0 }
set_option maxHeartbeats 8000000 in
set_option maxRecDepth 100000 in
theorem metX0_isFigure (l : Launch) (B0 : Nat) (a1 : Int32) (ro : Int32) (h : fX0_isFigure a1 = some ro) : Met l yX0_isFigure wsX0_isFigure rmX0_isFigure (va_Pc [.int a1] (fb_os B0 fb_sX0)) (QcRead ro) 0 0 (fun _ => False) := by
  refine Met.ofW (cc := cX0_isFigure) (maxL := 1) (ret := (some .boolean)) (by decide) rfl ?_
  intro p e s m args below meth c s₁ B hml hv
  obtain ⟨rfl, hZ⟩ := hv
  have hx := B.exec
  have hb := B.bytes
  have hr := B.returns
  have hts := atoms_spec (ws := wsX0_isFigure) B.pre
  have hown : s.vm.findClass RX0 = some m.cls := findClass_of_methodNamed B.named
  have hlocks := B.notSynchronized
  have hAB : ∀ q : Nat, (fun q => B0 ≤ q) q → B0 ≤ q := fun _ h9 => h9
  have hS : va_S (fun q => B0 ≤ q) s.heap s.heap [] := va_S.rf
  obtain ⟨t_FIGURE_STEPS, hz_FIGURE_STEPS, ht_FIGURE_STEPS⟩ := fb_stA_narrow hZ.2.2.1 hAB
  have w_f132 : (Cond.fieldLink RX0 132 "FiguredBass" "FIGURE_STEPS" "[I") ∈ wsX0_isFigure := List.mem_of_getElem? (i := 1) rfl
  have hl := lv_entry ([.int a1]) (n := 1) (Nat.le_of_ble_eq_true rfl)
  rw [lg_entry_eq]
  generalize (lg_sl ([.int a1]) ++ List.replicate (1 - (lg_sl ([.int a1])).length) Slot.unset).toArray = ls at hl ⊢
  have hl : lv_has ls 1 [(0, .int a1)] := hl
  unfold fX0_isFigure at h
  refine lv_iload_n hx hb dX0_isFigure_0 rfl (lv_at hl 0 rfl) ?_
  refine lv_if_lt (tgt := 16) hx hb dX0_isFigure_1 (by decide) (fun c1 => ?_) (fun c1 => ?_)
  · replace h := fb_it c1 h
    refine lv_iconst (v := 0) hx hb dX0_isFigure_16 (by decide) ?_
    cases h
    exact W.zret (ty := .boolean) hx hb hr rfl (fun t ht _ => ⟨rfl, ht⟩) (fun q hq => absurd hq List.not_mem_nil) dX0_isFigure_17
  · replace h := fb_ie c1 h
    refine lv_iload_n hx hb dX0_isFigure_4 rfl (lv_at hl 0 rfl) ?_
    refine va_gets hx hb hz_FIGURE_STEPS hS hown (hts _ w_f132) (fun _ h9 => h9) dX0_isFigure_5 ?_
    refine va_tlen hx hb ht_FIGURE_STEPS hS (v := 6) (by decide) dX0_isFigure_8 ?_
    refine lv_icmp_ge (tgt := 16) hx hb dX0_isFigure_9 (by decide) (fun c3 => ?_) (fun c3 => ?_)
    · replace h := fb_it c3 h
      refine lv_iconst (v := 0) hx hb dX0_isFigure_16 (by decide) ?_
      cases h
      exact W.zret (ty := .boolean) hx hb hr rfl (fun t ht _ => ⟨rfl, ht⟩) (fun q hq => absurd hq List.not_mem_nil) dX0_isFigure_17
    · replace h := fb_ie c3 h
      refine lv_iconst (v := 1) hx hb dX0_isFigure_12 (by decide) ?_
      refine lv_goto (tgt := 17) hx hb dX0_isFigure_13 (by decide) ?_
      cases h
      exact W.zret (ty := .boolean) hx hb hr rfl (fun t ht _ => ⟨rfl, ht⟩) (fun q hq => absurd hq List.not_mem_nil) dX0_isFigure_17
abbrev rmX0_isUpperVoice : Room := { frames := 0, cells := 0, slots := 0, locals := 0 }
set_option maxHeartbeats 8000000 in
set_option maxRecDepth 100000 in
theorem metX0_isUpperVoice (l : Launch) (B0 : Nat) (a1 : Int32) (ro : Int32) (h : fX0_isUpperVoice a1 = some ro) : Met l yX0_isUpperVoice wsX0_isUpperVoice rmX0_isUpperVoice (va_Pc [.int a1] (fb_os B0 fb_sX0)) (QcRead ro) 0 0 (fun _ => False) := by
  refine Met.ofW (cc := cX0_isUpperVoice) (maxL := 1) (ret := (some .boolean)) (by decide) rfl ?_
  intro p e s m args below meth c s₁ B hml hv
  obtain ⟨rfl, hZ⟩ := hv
  have hx := B.exec
  have hb := B.bytes
  have hr := B.returns
  have hts := atoms_spec (ws := wsX0_isUpperVoice) B.pre
  have hown : s.vm.findClass RX0 = some m.cls := findClass_of_methodNamed B.named
  have hlocks := B.notSynchronized
  have hAB : ∀ q : Nat, (fun q => B0 ≤ q) q → B0 ≤ q := fun _ h9 => h9
  have hS : va_S (fun q => B0 ≤ q) s.heap s.heap [] := va_S.rf
  have hl := lv_entry ([.int a1]) (n := 1) (Nat.le_of_ble_eq_true rfl)
  rw [lg_entry_eq]
  generalize (lg_sl ([.int a1]) ++ List.replicate (1 - (lg_sl ([.int a1])).length) Slot.unset).toArray = ls at hl ⊢
  have hl : lv_has ls 1 [(0, .int a1)] := hl
  unfold fX0_isUpperVoice at h
  refine lv_iload_n hx hb dX0_isUpperVoice_0 rfl (lv_at hl 0 rfl) ?_
  refine lv_iconst (v := 1) hx hb dX0_isUpperVoice_1 (by decide) ?_
  refine lv_icmp_lt (tgt := 14) hx hb dX0_isUpperVoice_2 (by decide) (fun c1 => ?_) (fun c1 => ?_)
  · replace h := fb_it c1 h
    refine lv_iconst (v := 0) hx hb dX0_isUpperVoice_14 (by decide) ?_
    cases h
    exact W.zret (ty := .boolean) hx hb hr rfl (fun t ht _ => ⟨rfl, ht⟩) (fun q hq => absurd hq List.not_mem_nil) dX0_isUpperVoice_15
  · replace h := fb_ie c1 h
    refine lv_iload_n hx hb dX0_isUpperVoice_5 rfl (lv_at hl 0 rfl) ?_
    refine lv_iconst (v := 3) hx hb dX0_isUpperVoice_6 (by decide) ?_
    refine lv_icmp_gt (tgt := 14) hx hb dX0_isUpperVoice_7 (by decide) (fun c3 => ?_) (fun c3 => ?_)
    · replace h := fb_it c3 h
      refine lv_iconst (v := 0) hx hb dX0_isUpperVoice_14 (by decide) ?_
      cases h
      exact W.zret (ty := .boolean) hx hb hr rfl (fun t ht _ => ⟨rfl, ht⟩) (fun q hq => absurd hq List.not_mem_nil) dX0_isUpperVoice_15
    · replace h := fb_ie c3 h
      refine lv_iconst (v := 1) hx hb dX0_isUpperVoice_10 (by decide) ?_
      refine lv_goto (tgt := 15) hx hb dX0_isUpperVoice_11 (by decide) ?_
      cases h
      exact W.zret (ty := .boolean) hx hb hr rfl (fun t ht _ => ⟨rfl, ht⟩) (fun q hq => absurd hq List.not_mem_nil) dX0_isUpperVoice_15
abbrev rmX0_isFault : Room := { frames := 0, cells := 0, slots := 0, locals := 0 }
set_option maxHeartbeats 8000000 in
set_option maxRecDepth 100000 in
theorem metX0_isFault (l : Launch) (B0 : Nat) (a1 : Int32) (ro : Int32) (h : fX0_isFault a1 = some ro) : Met l yX0_isFault wsX0_isFault rmX0_isFault (va_Pc [.int a1] (fb_os B0 fb_sX0)) (QcRead ro) 0 0 (fun _ => False) := by
  refine Met.ofW (cc := cX0_isFault) (maxL := 1) (ret := (some .boolean)) (by decide) rfl ?_
  intro p e s m args below meth c s₁ B hml hv
  obtain ⟨rfl, hZ⟩ := hv
  have hx := B.exec
  have hb := B.bytes
  have hr := B.returns
  have hts := atoms_spec (ws := wsX0_isFault) B.pre
  have hown : s.vm.findClass RX0 = some m.cls := findClass_of_methodNamed B.named
  have hlocks := B.notSynchronized
  have hAB : ∀ q : Nat, (fun q => B0 ≤ q) q → B0 ≤ q := fun _ h9 => h9
  have hS : va_S (fun q => B0 ≤ q) s.heap s.heap [] := va_S.rf
  have hl := lv_entry ([.int a1]) (n := 1) (Nat.le_of_ble_eq_true rfl)
  rw [lg_entry_eq]
  generalize (lg_sl ([.int a1]) ++ List.replicate (1 - (lg_sl ([.int a1])).length) Slot.unset).toArray = ls at hl ⊢
  have hl : lv_has ls 1 [(0, .int a1)] := hl
  unfold fX0_isFault at h
  refine lv_iload_n hx hb dX0_isFault_0 rfl (lv_at hl 0 rfl) ?_
  refine lv_if_lt (tgt := 14) hx hb dX0_isFault_1 (by decide) (fun c1 => ?_) (fun c1 => ?_)
  · replace h := fb_it c1 h
    refine lv_iconst (v := 0) hx hb dX0_isFault_14 (by decide) ?_
    cases h
    exact W.zret (ty := .boolean) hx hb hr rfl (fun t ht _ => ⟨rfl, ht⟩) (fun q hq => absurd hq List.not_mem_nil) dX0_isFault_15
  · replace h := fb_ie c1 h
    refine lv_iload_n hx hb dX0_isFault_4 rfl (lv_at hl 0 rfl) ?_
    refine lv_bipush (v := 8) hx hb dX0_isFault_5 (by decide) ?_
    refine lv_icmp_ge (tgt := 14) hx hb dX0_isFault_7 (by decide) (fun c3 => ?_) (fun c3 => ?_)
    · replace h := fb_it c3 h
      refine lv_iconst (v := 0) hx hb dX0_isFault_14 (by decide) ?_
      cases h
      exact W.zret (ty := .boolean) hx hb hr rfl (fun t ht _ => ⟨rfl, ht⟩) (fun q hq => absurd hq List.not_mem_nil) dX0_isFault_15
    · replace h := fb_ie c3 h
      refine lv_iconst (v := 1) hx hb dX0_isFault_10 (by decide) ?_
      refine lv_goto (tgt := 15) hx hb dX0_isFault_11 (by decide) ?_
      cases h
      exact W.zret (ty := .boolean) hx hb hr rfl (fun t ht _ => ⟨rfl, ht⟩) (fun q hq => absurd hq List.not_mem_nil) dX0_isFault_15
abbrev rmX0_isNote : Room := { frames := 0, cells := 0, slots := 0, locals := 0 }
set_option maxHeartbeats 8000000 in
set_option maxRecDepth 100000 in
theorem metX0_isNote (l : Launch) (B0 : Nat) (a1 : Int32) (ro : Int32) (h : fX0_isNote a1 = some ro) : Met l yX0_isNote wsX0_isNote rmX0_isNote (va_Pc [.int a1] (fb_os B0 fb_sX0)) (QcRead ro) 0 0 (fun _ => False) := by
  refine Met.ofW (cc := cX0_isNote) (maxL := 1) (ret := (some .boolean)) (by decide) rfl ?_
  intro p e s m args below meth c s₁ B hml hv
  obtain ⟨rfl, hZ⟩ := hv
  have hx := B.exec
  have hb := B.bytes
  have hr := B.returns
  have hts := atoms_spec (ws := wsX0_isNote) B.pre
  have hown : s.vm.findClass RX0 = some m.cls := findClass_of_methodNamed B.named
  have hlocks := B.notSynchronized
  have hAB : ∀ q : Nat, (fun q => B0 ≤ q) q → B0 ≤ q := fun _ h9 => h9
  have hS : va_S (fun q => B0 ≤ q) s.heap s.heap [] := va_S.rf
  have hl := lv_entry ([.int a1]) (n := 1) (Nat.le_of_ble_eq_true rfl)
  rw [lg_entry_eq]
  generalize (lg_sl ([.int a1]) ++ List.replicate (1 - (lg_sl ([.int a1])).length) Slot.unset).toArray = ls at hl ⊢
  have hl : lv_has ls 1 [(0, .int a1)] := hl
  unfold fX0_isNote at h
  refine lv_iload_n hx hb dX0_isNote_0 rfl (lv_at hl 0 rfl) ?_
  refine lv_if_lt (tgt := 14) hx hb dX0_isNote_1 (by decide) (fun c1 => ?_) (fun c1 => ?_)
  · replace h := fb_it c1 h
    refine lv_iconst (v := 0) hx hb dX0_isNote_14 (by decide) ?_
    cases h
    exact W.zret (ty := .boolean) hx hb hr rfl (fun t ht _ => ⟨rfl, ht⟩) (fun q hq => absurd hq List.not_mem_nil) dX0_isNote_15
  · replace h := fb_ie c1 h
    refine lv_iload_n hx hb dX0_isNote_4 rfl (lv_at hl 0 rfl) ?_
    refine lv_bipush (v := 28) hx hb dX0_isNote_5 (by decide) ?_
    refine lv_icmp_ge (tgt := 14) hx hb dX0_isNote_7 (by decide) (fun c3 => ?_) (fun c3 => ?_)
    · replace h := fb_it c3 h
      refine lv_iconst (v := 0) hx hb dX0_isNote_14 (by decide) ?_
      cases h
      exact W.zret (ty := .boolean) hx hb hr rfl (fun t ht _ => ⟨rfl, ht⟩) (fun q hq => absurd hq List.not_mem_nil) dX0_isNote_15
    · replace h := fb_ie c3 h
      refine lv_iconst (v := 1) hx hb dX0_isNote_10 (by decide) ?_
      refine lv_goto (tgt := 15) hx hb dX0_isNote_11 (by decide) ?_
      cases h
      exact W.zret (ty := .boolean) hx hb hr rfl (fun t ht _ => ⟨rfl, ht⟩) (fun q hq => absurd hq List.not_mem_nil) dX0_isNote_15
abbrev rmX0_stepAbove : Room := { frames := 0, cells := 0, slots := 0, locals := 0 }
set_option maxHeartbeats 8000000 in
set_option maxRecDepth 100000 in
theorem metX0_stepAbove (l : Launch) (B0 : Nat) (a1 : Int32) (a2 : Int32) (ro : Int32) (h : fX0_stepAbove a1 a2 = some ro) : Met l yX0_stepAbove wsX0_stepAbove rmX0_stepAbove (va_Pc [.int a1, .int a2] (fb_os B0 fb_sX0)) (QcRead ro) 0 0 (fun _ => False) := by
  refine Met.ofW (cc := cX0_stepAbove) (maxL := 3) (ret := (some .int)) (by decide) rfl ?_
  intro p e s m args below meth c s₁ B hml hv
  obtain ⟨rfl, hZ⟩ := hv
  have hx := B.exec
  have hb := B.bytes
  have hr := B.returns
  have hts := atoms_spec (ws := wsX0_stepAbove) B.pre
  have hown : s.vm.findClass RX0 = some m.cls := findClass_of_methodNamed B.named
  have hlocks := B.notSynchronized
  have hAB : ∀ q : Nat, (fun q => B0 ≤ q) q → B0 ≤ q := fun _ h9 => h9
  have hS : va_S (fun q => B0 ≤ q) s.heap s.heap [] := va_S.rf
  have hl := lv_entry ([.int a1, .int a2]) (n := 3) (Nat.le_of_ble_eq_true rfl)
  rw [lg_entry_eq]
  generalize (lg_sl ([.int a1, .int a2]) ++ List.replicate (3 - (lg_sl ([.int a1, .int a2])).length) Slot.unset).toArray = ls at hl ⊢
  have hl : lv_has ls 3 [(0, .int a1), (1, .int a2)] := hl
  unfold fX0_stepAbove at h
  refine lv_iload_n hx hb dX0_stepAbove_0 rfl (lv_at hl 1 rfl) ?_
  refine lv_iload_n hx hb dX0_stepAbove_1 rfl (lv_at hl 0 rfl) ?_
  refine lv_isub hx hb dX0_stepAbove_2 ?_
  refine lv_bipush (v := 7) hx hb dX0_stepAbove_3 (by decide) ?_
  refine lv_irem hx hb dX0_stepAbove_5 (by decide) ?_
  refine lv_istore_n (lv' := [(2, .int ((a2 - a1) - (a2 - a1) / 7 * 7)), (0, .int a1), (1, .int a2)]) hx hb dX0_stepAbove_6 rfl hl (by decide) rfl (fun ls hl => ?_)
  refine lv_iload_n hx hb dX0_stepAbove_7 rfl (lv_at hl 0 rfl) ?_
  refine lv_if_ge (tgt := 18) hx hb dX0_stepAbove_8 (by decide) (fun c1 => ?_) (fun c1 => ?_)
  · replace h := fb_it c1 h
    refine lv_iload_n hx hb dX0_stepAbove_18 rfl (lv_at hl 0 rfl) ?_
    cases h
    exact W.iret hx hb hr (fun t ht _ => ⟨rfl, ht⟩) (fun q hq => absurd hq List.not_mem_nil) dX0_stepAbove_19
  · replace h := fb_ie c1 h
    refine lv_iload_n hx hb dX0_stepAbove_11 rfl (lv_at hl 0 rfl) ?_
    refine lv_bipush (v := 7) hx hb dX0_stepAbove_12 (by decide) ?_
    refine lv_iadd hx hb dX0_stepAbove_14 ?_
    refine lv_goto (tgt := 19) hx hb dX0_stepAbove_15 (by decide) ?_
    cases h
    exact W.iret hx hb hr (fun t ht _ => ⟨rfl, ht⟩) (fun q hq => absurd hq List.not_mem_nil) dX0_stepAbove_19
abbrev rmX0_isChord : Room := { frames := 0, cells := 0, slots := 0, locals := 0 }
set_option maxHeartbeats 8000000 in
set_option maxRecDepth 100000 in
theorem metX0_isChord (l : Launch) (D : va_G) (cI : ClassId) (h0 qf qn qw ql B0 : Nat) (sz : Int32) (mi : Int32) (fg : Nat → Int32) (nt : Nat → Int32) (wt : Nat → Int32) (wl : Nat → Int32) (a1 : Int32) (ro : Int32) (h : fX0_isChord sz mi fg nt wt wl a1 = some ro) : Met l yX0_isChord wsX0_isChord rmX0_isChord (va_Pc [.ref h0, .int a1] (fb_ok D [(cI, .int)] B0 fb_sX0 (fb_wX0 cI h0 qf qn qw ql sz mi fg nt wt wl))) (QcRead ro) 0 0 (fun _ => False) := by
  refine Met.ofW (cc := cX0_isChord) (maxL := 2) (ret := (some .boolean)) (by decide) rfl ?_
  intro p e s m args below meth c s₁ B hml hv
  obtain ⟨rfl, hP, hK, hZ⟩ := hv
  have hx := B.exec
  have hb := B.bytes
  have hr := B.returns
  have hts := atoms_spec (ws := wsX0_isChord) B.pre
  have hown : s.vm.findClass RX0 = some m.cls := findClass_of_methodNamed B.named
  have hlocks := B.notSynchronized
  have hAB : ∀ q : Nat, (fun q => B0 ≤ q) q → B0 ≤ q := fun _ h9 => h9
  have hS : va_S (fun q => B0 ≤ q) s.heap s.heap [] := va_S.rf
  have hin0 : ∀ w ∈ u_ws RX0 TX0 6, w ∈ wsX0_isChord := fun _ h9 => List.mem_cons_of_mem _ (List.mem_append_right _ (h9))
  have w_f7 : (Cond.fieldLink RX0 7 "FiguredBass" "size" "I") ∈ wsX0_isChord := List.mem_of_getElem? (i := 1) rfl
  have hl := lv_entry ([.ref h0, .int a1]) (n := 2) (Nat.le_of_ble_eq_true rfl)
  rw [lg_entry_eq]
  generalize (lg_sl ([.ref h0, .int a1]) ++ List.replicate (2 - (lg_sl ([.ref h0, .int a1])).length) Slot.unset).toArray = ls at hl ⊢
  have hl : lv_has ls 2 [(0, .ref h0), (1, .int a1)] := hl
  unfold fX0_isChord at h
  refine lv_iload_n hx hb dX0_isChord_0 rfl (lv_at hl 1 rfl) ?_
  refine lv_if_lt (tgt := 16) hx hb dX0_isChord_1 (by decide) (fun c1 => ?_) (fun c1 => ?_)
  · replace h := fb_it c1 h
    refine lv_iconst (v := 0) hx hb dX0_isChord_16 (by decide) ?_
    cases h
    exact W.zret (ty := .boolean) hx hb hr rfl (fun t ht _ => ⟨rfl, ht⟩) (fun q hq => absurd hq List.not_mem_nil) dX0_isChord_17
  · replace h := fb_ie c1 h
    refine lv_iload_n hx hb dX0_isChord_4 rfl (lv_at hl 1 rfl) ?_
    refine lv_aload_n hx hb dX0_isChord_5 rfl (lv_at hl 0 rfl) ?_
    refine va_get (D := D) (ci := 0) (v := .int sz) (C := RX0) (T := TX0) (N := 6) hx hb hts hin0 hown hK hP 0 rfl rfl 0 (by decide) (hts _ w_f7) (fun _ h9 => h9) rfl dX0_isChord_6 ?_
    refine lv_icmp_ge (tgt := 16) hx hb dX0_isChord_9 (by decide) (fun c3 => ?_) (fun c3 => ?_)
    · replace h := fb_it c3 h
      refine lv_iconst (v := 0) hx hb dX0_isChord_16 (by decide) ?_
      cases h
      exact W.zret (ty := .boolean) hx hb hr rfl (fun t ht _ => ⟨rfl, ht⟩) (fun q hq => absurd hq List.not_mem_nil) dX0_isChord_17
    · replace h := fb_ie c3 h
      refine lv_iconst (v := 1) hx hb dX0_isChord_12 (by decide) ?_
      refine lv_goto (tgt := 17) hx hb dX0_isChord_13 (by decide) ?_
      cases h
      exact W.zret (ty := .boolean) hx hb hr rfl (fun t ht _ => ⟨rfl, ht⟩) (fun q hq => absurd hq List.not_mem_nil) dX0_isChord_17
abbrev rmX0_noteAt : Room := { frames := 0, cells := 0, slots := 0, locals := 0 }
set_option maxHeartbeats 8000000 in
set_option maxRecDepth 100000 in
theorem metX0_noteAt (l : Launch) (D : va_G) (cI : ClassId) (h0 qf qn qw ql B0 : Nat) (sz : Int32) (mi : Int32) (fg : Nat → Int32) (nt : Nat → Int32) (wt : Nat → Int32) (wl : Nat → Int32) (a1 : Int32) (a2 : Int32) (ro : Int32) (h : fX0_noteAt sz mi fg nt wt wl a1 a2 = some ro) : Met l yX0_noteAt wsX0_noteAt rmX0_noteAt (va_Pc [.ref h0, .int a1, .int a2] (fb_ok D [(cI, .int)] B0 fb_sX0 (fb_wX0 cI h0 qf qn qw ql sz mi fg nt wt wl))) (QcRead ro) 0 0 (fun _ => False) := by
  refine Met.ofW (cc := cX0_noteAt) (maxL := 3) (ret := (some .int)) (by decide) rfl ?_
  intro p e s m args below meth c s₁ B hml hv
  obtain ⟨rfl, hP, hK, hZ⟩ := hv
  have hx := B.exec
  have hb := B.bytes
  have hr := B.returns
  have hts := atoms_spec (ws := wsX0_noteAt) B.pre
  have hown : s.vm.findClass RX0 = some m.cls := findClass_of_methodNamed B.named
  have hlocks := B.notSynchronized
  have hAB : ∀ q : Nat, (fun q => B0 ≤ q) q → B0 ≤ q := fun _ h9 => h9
  have hS : va_S (fun q => B0 ≤ q) s.heap s.heap [] := va_S.rf
  have hin0 : ∀ w ∈ u_ws RX0 TX0 6, w ∈ wsX0_noteAt := fun _ h9 => List.mem_cons_of_mem _ (List.mem_append_right _ (h9))
  have w_f21 : (Cond.fieldLink RX0 21 "FiguredBass" "notes" "[I") ∈ wsX0_noteAt := List.mem_of_getElem? (i := 1) rfl
  have hl := lv_entry ([.ref h0, .int a1, .int a2]) (n := 3) (Nat.le_of_ble_eq_true rfl)
  rw [lg_entry_eq]
  generalize (lg_sl ([.ref h0, .int a1, .int a2]) ++ List.replicate (3 - (lg_sl ([.ref h0, .int a1, .int a2])).length) Slot.unset).toArray = ls at hl ⊢
  have hl : lv_has ls 3 [(0, .ref h0), (1, .int a1), (2, .int a2)] := hl
  unfold fX0_noteAt at h
  refine lv_aload_n hx hb dX0_noteAt_0 rfl (lv_at hl 0 rfl) ?_
  refine va_get (D := D) (ci := 0) (v := .ref qn) (C := RX0) (T := TX0) (N := 6) hx hb hts hin0 hown hK hP 0 rfl rfl 3 (by decide) (hts _ w_f21) (fun _ h9 => h9) rfl dX0_noteAt_1 ?_
  refine lv_iload_n hx hb dX0_noteAt_4 rfl (lv_at hl 1 rfl) ?_
  refine lv_iconst (v := 4) hx hb dX0_noteAt_5 (by decide) ?_
  refine lv_imul hx hb dX0_noteAt_6 ?_
  refine lv_iload_n hx hb dX0_noteAt_7 rfl (lv_at hl 2 rfl) ?_
  refine lv_iadd hx hb dX0_noteAt_8 ?_
  obtain ⟨hi1, h⟩ := fb_cks h
  refine va_iald hx hb hK hP 2 0 rfl rfl (fb_ixin hi1) dX0_noteAt_9 ?_
  cases h
  exact W.iret hx hb hr (fun t ht _ => ⟨rfl, ht⟩) (fun q hq => absurd hq List.not_mem_nil) dX0_noteAt_10
abbrev rmX0_exchangeNote : Room := { frames := 0, cells := 0, slots := 0, locals := 0 }
set_option maxHeartbeats 8000000 in
set_option maxRecDepth 100000 in
theorem metX0_exchangeNote (l : Launch) (D : va_G) (cI : ClassId) (h0 qf qn qw ql B0 : Nat) (sz : Int32) (mi : Int32) (fg : Nat → Int32) (nt : Nat → Int32) (wt : Nat → Int32) (wl : Nat → Int32) (a1 : Int32) (a2 : Int32) (a3 : Int32) (hz : Nat) (ro : Int32) (nto : Nat → Int32) (h : fX0_exchangeNote sz mi fg nt wt wl a1 a2 a3 = some (ro, nto)) : Met l yX0_exchangeNote wsX0_exchangeNote rmX0_exchangeNote (va_Pc [.ref h0, .int a1, .int a2, .int a3] (fb_pm D [(cI, .int)] B0 fb_sX0 (fb_wX0 cI h0 qf qn qw ql sz mi fg nt wt wl) hz)) (fb_qM (fun q => some (.int ro)) (fun q => fb_wX0 cI h0 qf qn qw ql sz mi fg nto wt wl) D (va_A (fb_wX0 cI h0 qf qn qw ql sz mi fg nt wt wl) hz)) 0 0 (va_A (fb_wX0 cI h0 qf qn qw ql sz mi fg nt wt wl) hz) := by
  refine Met.ofW (cc := cX0_exchangeNote) (maxL := 5) (ret := (some .int)) (by decide) rfl ?_
  intro p e s m args below meth c s₁ B hml hv
  obtain ⟨rfl, hsz, ⟨hP, hK, hZ⟩, hD0, hAB⟩ := hv
  have hx := B.exec
  have hb := B.bytes
  have hr := B.returns
  have hts := atoms_spec (ws := wsX0_exchangeNote) B.pre
  have hown : s.vm.findClass RX0 = some m.cls := findClass_of_methodNamed B.named
  have hlocks := B.notSynchronized
  subst hsz
  have hD := hD0.self (sz := s.heap.size)
  generalize hAe : va_A (fb_wX0 cI h0 qf qn qw ql sz mi fg nt wt wl) s.heap.size = A at hD hAB ⊢
  have hA : ∀ q : Nat, s.heap.size ≤ q → A q := fun q h9 => by rw [← hAe]; exact Or.inr h9
  have hS : va_S A s.heap s.heap [] := va_S.rf
  have hP : va_P D vwCl (fb_wX0 cI h0 qf qn qw ql sz mi fg nt wt wl) s.heap := hP
  have hin0 : ∀ w ∈ u_ws RX0 TX0 6, w ∈ wsX0_exchangeNote := fun _ h9 => List.mem_cons_of_mem _ (List.mem_append_right _ (h9))
  have w_f21 : (Cond.fieldLink RX0 21 "FiguredBass" "notes" "[I") ∈ wsX0_exchangeNote := List.mem_of_getElem? (i := 1) rfl
  have hl := lv_entry ([.ref h0, .int a1, .int a2, .int a3]) (n := 5) (Nat.le_of_ble_eq_true rfl)
  rw [lg_entry_eq]
  generalize (lg_sl ([.ref h0, .int a1, .int a2, .int a3]) ++ List.replicate (5 - (lg_sl ([.ref h0, .int a1, .int a2, .int a3])).length) Slot.unset).toArray = ls at hl ⊢
  have hl : lv_has ls 5 [(0, .ref h0), (1, .int a1), (2, .int a2), (3, .int a3)] := hl
  suffices K : ∀ (H : Heap) (locs : List Loc), va_P D vwCl (fb_wX0 cI h0 qf qn qw ql sz mi fg nt wt wl) H → va_S A s.heap H locs → W p l e (headSpec wsX0_exchangeNote rmX0_exchangeNote).room s m ([.ref h0, .int a1, .int a2, .int a3] : List Value).toArray below meth c H locs 0 0 (MQ below (fb_qM (fun q => some (.int ro)) (fun q => fb_wX0 cI h0 qf qn qw ql sz mi fg nto wt wl) D A) ([.ref h0, .int a1, .int a2, .int a3] : List Value).toArray s 0 0 A) (F0 m 0 ls []) from K s.heap [] hP hS
  intro H locs hP hS
  unfold fX0_exchangeNote at h
  refine lv_aload_n hx hb dX0_exchangeNote_0 rfl (lv_at hl 0 rfl) ?_
  refine va_get (D := D) (ci := 0) (v := .ref qn) (C := RX0) (T := TX0) (N := 6) hx hb hts hin0 hown hK hP 0 rfl rfl 3 (by decide) (hts _ w_f21) (fun _ h9 => h9) rfl dX0_exchangeNote_1 ?_
  refine lv_iload_n hx hb dX0_exchangeNote_4 rfl (lv_at hl 1 rfl) ?_
  refine lv_iconst (v := 4) hx hb dX0_exchangeNote_5 (by decide) ?_
  refine lv_imul hx hb dX0_exchangeNote_6 ?_
  refine lv_iload_n hx hb dX0_exchangeNote_7 rfl (lv_at hl 2 rfl) ?_
  refine lv_iadd hx hb dX0_exchangeNote_8 ?_
  obtain ⟨hi1, h⟩ := fb_cks h
  refine va_iald hx hb hK hP 2 0 rfl rfl (fb_ixin hi1) dX0_exchangeNote_9 ?_
  refine lv_istore (lv' := [(4, .int (nt ((a1 * 4) + a2).toNatClampNeg)), (0, .ref h0), (1, .int a1), (2, .int a2), (3, .int a3)]) hx hb dX0_exchangeNote_10 hl (by decide) rfl (fun ls hl => ?_)
  refine lv_aload_n hx hb dX0_exchangeNote_12 rfl (lv_at hl 1 rfl) ?_
  refine va_get (D := D) (ci := 0) (v := .ref qn) (C := RX0) (T := TX0) (N := 6) hx hb hts hin0 hown hK hP 0 rfl rfl 3 (by decide) (hts _ w_f21) (fun _ h9 => h9) rfl dX0_exchangeNote_13 ?_
  refine lv_iload_n hx hb dX0_exchangeNote_16 rfl (lv_at hl 2 rfl) ?_
  refine lv_iconst (v := 4) hx hb dX0_exchangeNote_17 (by decide) ?_
  refine lv_imul hx hb dX0_exchangeNote_18 ?_
  refine lv_iload_n hx hb dX0_exchangeNote_19 rfl (lv_at hl 3 rfl) ?_
  refine lv_iadd hx hb dX0_exchangeNote_20 ?_
  refine lv_iload_n hx hb dX0_exchangeNote_21 rfl (lv_at hl 4 rfl) ?_
  refine va_iast hx hb hK hP hD hS 2 0 rfl rfl (fb_ixin hi1) dX0_exchangeNote_22 (fun H locs hP hD hS => ?_)
  have hP : va_P D vwCl (fb_wX0 cI h0 qf qn qw ql sz mi fg (upd nt ((a1 * 4) + a2).toNatClampNeg a3) wt wl) H := hP
  have hD : va_D A (fb_wX0 cI h0 qf qn qw ql sz mi fg (upd nt ((a1 * 4) + a2).toNatClampNeg a3) wt wl) := hD
  refine lv_iload hx hb dX0_exchangeNote_23 (lv_at hl 0 rfl) ?_
  cases h
  exact W.iret hx hb hr (fun t ht _ => ⟨⟨0, rfl, by rw [ht]; exact hP, hD⟩, hS.F ht⟩) hS.2.2 dX0_exchangeNote_25
abbrev rmX0_putNotes : Room := { frames := 0, cells := 0, slots := 0, locals := 0 }
set_option maxHeartbeats 8000000 in
set_option maxRecDepth 100000 in
theorem metX0_putNotes (l : Launch) (D : va_G) (cI : ClassId) (h0 qf qn qw ql B0 : Nat) (sz : Int32) (mi : Int32) (fg : Nat → Int32) (nt : Nat → Int32) (wt : Nat → Int32) (wl : Nat → Int32) (a1 : Int32) (a2 : Int32) (a3 : Int32) (a4 : Int32) (hz : Nat) (nto : Nat → Int32) (h : fX0_putNotes sz mi fg nt wt wl a1 a2 a3 a4 = some nto) : Met l yX0_putNotes wsX0_putNotes rmX0_putNotes (va_Pc [.ref h0, .int a1, .int a2, .int a3, .int a4] (fb_pm D [(cI, .int)] B0 fb_sX0 (fb_wX0 cI h0 qf qn qw ql sz mi fg nt wt wl) hz)) (fb_qM (fun q => none) (fun q => fb_wX0 cI h0 qf qn qw ql sz mi fg nto wt wl) D (va_A (fb_wX0 cI h0 qf qn qw ql sz mi fg nt wt wl) hz)) 0 0 (va_A (fb_wX0 cI h0 qf qn qw ql sz mi fg nt wt wl) hz) := by
  refine Met.ofW (cc := cX0_putNotes) (maxL := 5) (ret := none) (by decide) rfl ?_
  intro p e s m args below meth c s₁ B hml hv
  obtain ⟨rfl, hsz, ⟨hP, hK, hZ⟩, hD0, hAB⟩ := hv
  have hx := B.exec
  have hb := B.bytes
  have hr := B.returns
  have hts := atoms_spec (ws := wsX0_putNotes) B.pre
  have hown : s.vm.findClass RX0 = some m.cls := findClass_of_methodNamed B.named
  have hlocks := B.notSynchronized
  subst hsz
  have hD := hD0.self (sz := s.heap.size)
  generalize hAe : va_A (fb_wX0 cI h0 qf qn qw ql sz mi fg nt wt wl) s.heap.size = A at hD hAB ⊢
  have hA : ∀ q : Nat, s.heap.size ≤ q → A q := fun q h9 => by rw [← hAe]; exact Or.inr h9
  have hS : va_S A s.heap s.heap [] := va_S.rf
  have hP : va_P D vwCl (fb_wX0 cI h0 qf qn qw ql sz mi fg nt wt wl) s.heap := hP
  have hin0 : ∀ w ∈ u_ws RX0 TX0 6, w ∈ wsX0_putNotes := fun _ h9 => List.mem_cons_of_mem _ (List.mem_append_right _ (h9))
  have w_f21 : (Cond.fieldLink RX0 21 "FiguredBass" "notes" "[I") ∈ wsX0_putNotes := List.mem_of_getElem? (i := 1) rfl
  have hl := lv_entry ([.ref h0, .int a1, .int a2, .int a3, .int a4]) (n := 5) (Nat.le_of_ble_eq_true rfl)
  rw [lg_entry_eq]
  generalize (lg_sl ([.ref h0, .int a1, .int a2, .int a3, .int a4]) ++ List.replicate (5 - (lg_sl ([.ref h0, .int a1, .int a2, .int a3, .int a4])).length) Slot.unset).toArray = ls at hl ⊢
  have hl : lv_has ls 5 [(0, .ref h0), (1, .int a1), (2, .int a2), (3, .int a3), (4, .int a4)] := hl
  suffices K : ∀ (H : Heap) (locs : List Loc), va_P D vwCl (fb_wX0 cI h0 qf qn qw ql sz mi fg nt wt wl) H → va_S A s.heap H locs → W p l e (headSpec wsX0_putNotes rmX0_putNotes).room s m ([.ref h0, .int a1, .int a2, .int a3, .int a4] : List Value).toArray below meth c H locs 0 0 (MQ below (fb_qM (fun q => none) (fun q => fb_wX0 cI h0 qf qn qw ql sz mi fg nto wt wl) D A) ([.ref h0, .int a1, .int a2, .int a3, .int a4] : List Value).toArray s 0 0 A) (F0 m 0 ls []) from K s.heap [] hP hS
  intro H locs hP hS
  unfold fX0_putNotes at h
  refine lv_aload_n hx hb dX0_putNotes_0 rfl (lv_at hl 0 rfl) ?_
  refine va_get (D := D) (ci := 0) (v := .ref qn) (C := RX0) (T := TX0) (N := 6) hx hb hts hin0 hown hK hP 0 rfl rfl 3 (by decide) (hts _ w_f21) (fun _ h9 => h9) rfl dX0_putNotes_1 ?_
  refine lv_iload_n hx hb dX0_putNotes_4 rfl (lv_at hl 1 rfl) ?_
  refine lv_iconst (v := 4) hx hb dX0_putNotes_5 (by decide) ?_
  refine lv_imul hx hb dX0_putNotes_6 ?_
  refine lv_iconst (v := 1) hx hb dX0_putNotes_7 (by decide) ?_
  refine lv_iadd hx hb dX0_putNotes_8 ?_
  refine lv_iload_n hx hb dX0_putNotes_9 rfl (lv_at hl 2 rfl) ?_
  obtain ⟨hi1, h⟩ := fb_cks h
  refine va_iast hx hb hK hP hD hS 2 0 rfl rfl (fb_ixin hi1) dX0_putNotes_10 (fun H locs hP hD hS => ?_)
  have hP : va_P D vwCl (fb_wX0 cI h0 qf qn qw ql sz mi fg (upd nt ((a1 * 4) + 1).toNatClampNeg a2) wt wl) H := hP
  have hD : va_D A (fb_wX0 cI h0 qf qn qw ql sz mi fg (upd nt ((a1 * 4) + 1).toNatClampNeg a2) wt wl) := hD
  refine lv_aload_n hx hb dX0_putNotes_11 rfl (lv_at hl 0 rfl) ?_
  refine va_get (D := D) (ci := 0) (v := .ref qn) (C := RX0) (T := TX0) (N := 6) hx hb hts hin0 hown hK hP 0 rfl rfl 3 (by decide) (hts _ w_f21) (fun _ h9 => h9) rfl dX0_putNotes_12 ?_
  refine lv_iload_n hx hb dX0_putNotes_15 rfl (lv_at hl 1 rfl) ?_
  refine lv_iconst (v := 4) hx hb dX0_putNotes_16 (by decide) ?_
  refine lv_imul hx hb dX0_putNotes_17 ?_
  refine lv_iconst (v := 2) hx hb dX0_putNotes_18 (by decide) ?_
  refine lv_iadd hx hb dX0_putNotes_19 ?_
  refine lv_iload_n hx hb dX0_putNotes_20 rfl (lv_at hl 3 rfl) ?_
  obtain ⟨hi2, h⟩ := fb_cks h
  refine va_iast hx hb hK hP hD hS 2 0 rfl rfl (fb_ixin hi2) dX0_putNotes_21 (fun H locs hP hD hS => ?_)
  have hP : va_P D vwCl (fb_wX0 cI h0 qf qn qw ql sz mi fg (upd (upd nt ((a1 * 4) + 1).toNatClampNeg a2) ((a1 * 4) + 2).toNatClampNeg a3) wt wl) H := hP
  have hD : va_D A (fb_wX0 cI h0 qf qn qw ql sz mi fg (upd (upd nt ((a1 * 4) + 1).toNatClampNeg a2) ((a1 * 4) + 2).toNatClampNeg a3) wt wl) := hD
  refine lv_aload_n hx hb dX0_putNotes_22 rfl (lv_at hl 0 rfl) ?_
  refine va_get (D := D) (ci := 0) (v := .ref qn) (C := RX0) (T := TX0) (N := 6) hx hb hts hin0 hown hK hP 0 rfl rfl 3 (by decide) (hts _ w_f21) (fun _ h9 => h9) rfl dX0_putNotes_23 ?_
  refine lv_iload_n hx hb dX0_putNotes_26 rfl (lv_at hl 1 rfl) ?_
  refine lv_iconst (v := 4) hx hb dX0_putNotes_27 (by decide) ?_
  refine lv_imul hx hb dX0_putNotes_28 ?_
  refine lv_iconst (v := 3) hx hb dX0_putNotes_29 (by decide) ?_
  refine lv_iadd hx hb dX0_putNotes_30 ?_
  refine lv_iload hx hb dX0_putNotes_31 (lv_at hl 4 rfl) ?_
  obtain ⟨hi3, h⟩ := fb_cks h
  refine va_iast hx hb hK hP hD hS 2 0 rfl rfl (fb_ixin hi3) dX0_putNotes_33 (fun H locs hP hD hS => ?_)
  have hP : va_P D vwCl (fb_wX0 cI h0 qf qn qw ql sz mi fg (upd (upd (upd nt ((a1 * 4) + 1).toNatClampNeg a2) ((a1 * 4) + 2).toNatClampNeg a3) ((a1 * 4) + 3).toNatClampNeg a4) wt wl) H := hP
  have hD : va_D A (fb_wX0 cI h0 qf qn qw ql sz mi fg (upd (upd (upd nt ((a1 * 4) + 1).toNatClampNeg a2) ((a1 * 4) + 2).toNatClampNeg a3) ((a1 * 4) + 3).toNatClampNeg a4) wt wl) := hD
  cases h
  exact W.vret hx hb hr (fun t ht _ => ⟨⟨0, rfl, by rw [ht]; exact hP, hD⟩, hS.F ht⟩) hS.2.2 dX0_putNotes_34
abbrev rmX0_putWay : Room := { frames := 1, cells := 0, slots := 0, locals := 24 }
set_option maxHeartbeats 8000000 in
set_option maxRecDepth 100000 in
theorem metX0_putWay (l : Launch) (D : va_G) (cI : ClassId) (h0 qf qn qw ql B0 : Nat) (sz : Int32) (mi : Int32) (fg : Nat → Int32) (nt : Nat → Int32) (wt : Nat → Int32) (wl : Nat → Int32) (a1 : Int32) (a2 : Int32) (hz : Nat) (nto : Nat → Int32) (h : fX0_putWay sz mi fg nt wt wl a1 a2 = some nto) : Met l yX0_putWay wsX0_putWay rmX0_putWay (va_Pc [.ref h0, .int a1, .int a2] (fb_pm D [(cI, .int)] B0 fb_sX0 (fb_wX0 cI h0 qf qn qw ql sz mi fg nt wt wl) hz)) (fb_qM (fun q => none) (fun q => fb_wX0 cI h0 qf qn qw ql sz mi fg nto wt wl) D (va_A (fb_wX0 cI h0 qf qn qw ql sz mi fg nt wt wl) hz)) 0 0 (va_A (fb_wX0 cI h0 qf qn qw ql sz mi fg nt wt wl) hz) := by
  refine Met.ofW (cc := cX0_putWay) (maxL := 3) (ret := none) (by decide) rfl ?_
  intro p e s m args below meth c s₁ B hml hv
  obtain ⟨rfl, hsz, ⟨hP, hK, hZ⟩, hD0, hAB⟩ := hv
  have hx := B.exec
  have hb := B.bytes
  have hr := B.returns
  have hts := atoms_spec (ws := wsX0_putWay) B.pre
  have hown : s.vm.findClass RX0 = some m.cls := findClass_of_methodNamed B.named
  have hlocks := B.notSynchronized
  subst hsz
  have hD := hD0.self (sz := s.heap.size)
  generalize hAe : va_A (fb_wX0 cI h0 qf qn qw ql sz mi fg nt wt wl) s.heap.size = A at hD hAB ⊢
  have hA : ∀ q : Nat, s.heap.size ≤ q → A q := fun q h9 => by rw [← hAe]; exact Or.inr h9
  have hS : va_S A s.heap s.heap [] := va_S.rf
  have hP : va_P D vwCl (fb_wX0 cI h0 qf qn qw ql sz mi fg nt wt wl) s.heap := hP
  have hin0 : ∀ w ∈ u_ws RX0 TX0 6, w ∈ wsX0_putWay := fun _ h9 => List.mem_cons_of_mem _ (List.mem_append_right _ (h9))
  have hl := lv_entry ([.ref h0, .int a1, .int a2]) (n := 3) (Nat.le_of_ble_eq_true rfl)
  rw [lg_entry_eq]
  generalize (lg_sl ([.ref h0, .int a1, .int a2]) ++ List.replicate (3 - (lg_sl ([.ref h0, .int a1, .int a2])).length) Slot.unset).toArray = ls at hl ⊢
  have hl : lv_has ls 3 [(0, .ref h0), (1, .int a1), (2, .int a2)] := hl
  suffices K : ∀ (H : Heap) (locs : List Loc), va_P D vwCl (fb_wX0 cI h0 qf qn qw ql sz mi fg nt wt wl) H → va_S A s.heap H locs → W p l e (headSpec wsX0_putWay rmX0_putWay).room s m ([.ref h0, .int a1, .int a2] : List Value).toArray below meth c H locs 0 0 (MQ below (fb_qM (fun q => none) (fun q => fb_wX0 cI h0 qf qn qw ql sz mi fg nto wt wl) D A) ([.ref h0, .int a1, .int a2] : List Value).toArray s 0 0 A) (F0 m 0 ls []) from K s.heap [] hP hS
  intro H locs hP hS
  unfold fX0_putWay at h
  refine lv_aload_n hx hb dX0_putWay_0 rfl (lv_at hl 0 rfl) ?_
  refine lv_iload_n hx hb dX0_putWay_1 rfl (lv_at hl 1 rfl) ?_
  refine lv_iload_n hx hb dX0_putWay_2 rfl (lv_at hl 2 rfl) ?_
  refine lv_sipush (v := 784) hx hb dX0_putWay_3 (by decide) ?_
  refine lv_idiv hx hb dX0_putWay_6 (by decide) ?_
  refine lv_iload_n hx hb dX0_putWay_7 rfl (lv_at hl 2 rfl) ?_
  refine lv_bipush (v := 28) hx hb dX0_putWay_8 (by decide) ?_
  refine lv_idiv hx hb dX0_putWay_10 (by decide) ?_
  refine lv_bipush (v := 28) hx hb dX0_putWay_11 (by decide) ?_
  refine lv_irem hx hb dX0_putWay_13 (by decide) ?_
  refine lv_iload_n hx hb dX0_putWay_14 rfl (lv_at hl 2 rfl) ?_
  refine lv_bipush (v := 28) hx hb dX0_putWay_15 (by decide) ?_
  refine lv_irem hx hb dX0_putWay_17 (by decide) ?_
  obtain ⟨nt_2, h1, h⟩ := fb_b1s h
  have hPc : va_P D vwCl (fb_wX0 cI h0 qf qn qw ql sz mi fg nt wt wl) H := hP.sub [0, 1, 2, 3, 4] rfl
  have hDc : va_D A (fb_wX0 cI h0 qf qn qw ql sz mi fg nt wt wl) := hD.sub [0, 1, 2, 3, 4] (by decide) rfl
  have hFc := va_free (wc := fb_wX0 cI h0 qf qn qw ql sz mi fg nt wt wl) hD hS hA [0, 1, 2, 3, 4] rfl
  refine fb_callM (va_runV (As := [.int a1, .int (a2 / 784), .int ((a2 / 28) - (a2 / 28) / 28 * 28), .int (a2 - a2 / 28 * 28)]) (rest := []) ⟨hx, hb, hml, hown, hts⟩ (metX0_putNotes l D cI h0 qf qn qw ql B0 sz mi fg nt wt wl a1 (a2 / 784) ((a2 / 28) - (a2 / 28) / 28 * 28) (a2 - a2 / 28 * 28) H.size nt_2 h1) (cwV 4 hts gX0_putWay_X0_putNotes rfl rfl rfl (by decide +kernel) ⟨Nat.le_of_ble_eq_true rfl, Nat.le_of_ble_eq_true rfl⟩) (fb_preVM (ci := 0) fb_sX0p hPc hK hDc hZ hS hAB hA rfl rfl _) rfl rfl hl.1 rfl (lv_room (Nat.le_of_ble_eq_true rfl)) dX0_putWay_18 ⟨Nat.le_of_ble_eq_true rfl, Nat.le_of_ble_eq_true rfl⟩) hS (fun q _ h9 => hFc q h9) hFc (fun _ H1 locs hP1 hD1 hz1 hk1 hS => ?_)
  have hP : va_P D vwCl (fb_wX0 cI h0 qf qn qw ql sz mi fg nt_2 wt wl) H1 := hP1
  have hD : va_D A (fb_wX0 cI h0 qf qn qw ql sz mi fg nt_2 wt wl) := hD1.weaken (fun _ q _ h9 => hFc q.1 h9)
  generalize H1 = H at hP hS
  cases h
  exact W.vret hx hb hr (fun t ht _ => ⟨⟨0, rfl, by rw [ht]; exact hP, hD⟩, hS.F ht⟩) hS.2.2 dX0_putWay_21
abbrev rmX0_pitchOf : Room := { frames := 0, cells := 0, slots := 0, locals := 0 }
set_option maxHeartbeats 8000000 in
set_option maxRecDepth 100000 in
theorem metX0_pitchOf (l : Launch) (D : va_G) (cI : ClassId) (h0 qf qn qw ql B0 : Nat) (sz : Int32) (mi : Int32) (fg : Nat → Int32) (nt : Nat → Int32) (wt : Nat → Int32) (wl : Nat → Int32) (a1 : Int32) (ro : Int32) (h : fX0_pitchOf sz mi fg nt wt wl a1 = some ro) : Met l yX0_pitchOf wsX0_pitchOf rmX0_pitchOf (va_Pc [.ref h0, .int a1] (fb_ok D [(cI, .int)] B0 fb_sX0 (fb_wX0 cI h0 qf qn qw ql sz mi fg nt wt wl))) (QcRead ro) 0 0 (fun _ => False) := by
  refine Met.ofW (cc := cX0_pitchOf) (maxL := 3) (ret := (some .int)) (by decide) rfl ?_
  intro p e s m args below meth c s₁ B hml hv
  obtain ⟨rfl, hP, hK, hZ⟩ := hv
  have hx := B.exec
  have hb := B.bytes
  have hr := B.returns
  have hts := atoms_spec (ws := wsX0_pitchOf) B.pre
  have hown : s.vm.findClass RX0 = some m.cls := findClass_of_methodNamed B.named
  have hlocks := B.notSynchronized
  have hAB : ∀ q : Nat, (fun q => B0 ≤ q) q → B0 ≤ q := fun _ h9 => h9
  have hS : va_S (fun q => B0 ≤ q) s.heap s.heap [] := va_S.rf
  obtain ⟨t_MAJOR, hz_MAJOR, ht_MAJOR⟩ := fb_stA_narrow hZ.2.2.2.1 hAB
  obtain ⟨t_MINOR, hz_MINOR, ht_MINOR⟩ := fb_stA_narrow hZ.2.2.2.2 hAB
  have hin0 : ∀ w ∈ u_ws RX0 TX0 6, w ∈ wsX0_pitchOf := fun _ h9 => List.mem_cons_of_mem _ (List.mem_append_right _ (h9))
  have w_f13 : (Cond.fieldLink RX0 13 "FiguredBass" "inMinor" "Z") ∈ wsX0_pitchOf := List.mem_of_getElem? (i := 1) rfl
  have w_f145 : (Cond.fieldLink RX0 145 "FiguredBass" "MINOR" "[I") ∈ wsX0_pitchOf := List.mem_of_getElem? (i := 2) rfl
  have w_f148 : (Cond.fieldLink RX0 148 "FiguredBass" "MAJOR" "[I") ∈ wsX0_pitchOf := List.mem_of_getElem? (i := 3) rfl
  have hl := lv_entry ([.ref h0, .int a1]) (n := 3) (Nat.le_of_ble_eq_true rfl)
  rw [lg_entry_eq]
  generalize (lg_sl ([.ref h0, .int a1]) ++ List.replicate (3 - (lg_sl ([.ref h0, .int a1])).length) Slot.unset).toArray = ls at hl ⊢
  have hl : lv_has ls 3 [(0, .ref h0), (1, .int a1)] := hl
  unfold fX0_pitchOf at h
  refine lv_iload_n hx hb dX0_pitchOf_0 rfl (lv_at hl 1 rfl) ?_
  refine lv_bipush (v := 7) hx hb dX0_pitchOf_1 (by decide) ?_
  refine lv_irem hx hb dX0_pitchOf_3 (by decide) ?_
  refine lv_istore_n (lv' := [(2, .int (a1 - a1 / 7 * 7)), (0, .ref h0), (1, .int a1)]) hx hb dX0_pitchOf_4 rfl hl (by decide) rfl (fun ls hl => ?_)
  refine lv_bipush (v := 12) hx hb dX0_pitchOf_5 (by decide) ?_
  refine lv_iload_n hx hb dX0_pitchOf_7 rfl (lv_at hl 2 rfl) ?_
  refine lv_bipush (v := 7) hx hb dX0_pitchOf_8 (by decide) ?_
  refine lv_idiv hx hb dX0_pitchOf_10 (by decide) ?_
  refine lv_imul hx hb dX0_pitchOf_11 ?_
  refine lv_aload_n hx hb dX0_pitchOf_12 rfl (lv_at hl 1 rfl) ?_
  refine va_get (D := D) (ci := 0) (v := .int mi) (C := RX0) (T := TX0) (N := 6) hx hb hts hin0 hown hK hP 0 rfl rfl 1 (by decide) (hts _ w_f13) (fun _ h9 => h9) rfl dX0_pitchOf_13 ?_
  obtain ⟨j4, hjJ1, h⟩ := fb_b1s h
  have J1 : ∀ (ls : Array Slot), lv_has ls 3 [] → W p l e (headSpec wsX0_pitchOf rmX0_pitchOf).room s m ([.ref h0, .int a1] : List Value).toArray below meth c s.heap [] 0 0 (MQ below (QcRead ro) ([.ref h0, .int a1] : List Value).toArray s 0 0 (fun _ => False)) (F0 m 32 ls [.int j4, .int ((12 : Int32) * (a1 / 7))]) := by
    intro ls hl
    refine lv_iadd hx hb dX0_pitchOf_32 ?_
    cases h
    exact W.iret hx hb hr (fun t ht _ => ⟨rfl, ht⟩) (fun q hq => absurd hq List.not_mem_nil) dX0_pitchOf_33
  replace h := hjJ1
  refine lv_if_eq (tgt := 27) hx hb dX0_pitchOf_16 (by decide) (fun c1 => ?_) (fun c1 => ?_)
  · replace h := fb_it c1 h
    refine va_gets hx hb hz_MAJOR hS hown (hts _ w_f148) (fun _ h9 => h9) dX0_pitchOf_27 ?_
    refine lv_iload_n hx hb dX0_pitchOf_30 rfl (lv_at hl 0 rfl) ?_
    obtain ⟨hi2, h⟩ := fb_cks h
    refine va_ti hx hb ht_MAJOR hS (fb_ixin hi2) rfl dX0_pitchOf_31 ?_
    cases h
    exact J1 ls (lv_sub hl [] rfl)
  · replace h := fb_ie c1 h
    refine va_gets hx hb hz_MINOR hS hown (hts _ w_f145) (fun _ h9 => h9) dX0_pitchOf_19 ?_
    refine lv_iload_n hx hb dX0_pitchOf_22 rfl (lv_at hl 0 rfl) ?_
    obtain ⟨hi3, h⟩ := fb_cks h
    refine va_ti hx hb ht_MINOR hS (fb_ixin hi3) rfl dX0_pitchOf_23 ?_
    refine lv_goto (tgt := 32) hx hb dX0_pitchOf_24 (by decide) ?_
    cases h
    exact J1 ls (lv_sub hl [] rfl)
abbrev rmX0_moves : Room := { frames := 1, cells := 0, slots := 0, locals := 22 }
set_option maxHeartbeats 8000000 in
set_option maxRecDepth 100000 in
theorem metX0_moves (l : Launch) (D : va_G) (cI : ClassId) (h0 qf qn qw ql B0 : Nat) (sz : Int32) (mi : Int32) (fg : Nat → Int32) (nt : Nat → Int32) (wt : Nat → Int32) (wl : Nat → Int32) (a1 : Int32) (a2 : Int32) (ro : Int32) (h : fX0_moves sz mi fg nt wt wl a1 a2 = some ro) : Met l yX0_moves wsX0_moves rmX0_moves (va_Pc [.ref h0, .int a1, .int a2] (fb_ok D [(cI, .int)] B0 fb_sX0 (fb_wX0 cI h0 qf qn qw ql sz mi fg nt wt wl))) (QcRead ro) 0 0 (fun _ => False) := by
  refine Met.ofW (cc := cX0_moves) (maxL := 3) (ret := (some .boolean)) (by decide) rfl ?_
  intro p e s m args below meth c s₁ B hml hv
  obtain ⟨rfl, hP, hK, hZ⟩ := hv
  have hx := B.exec
  have hb := B.bytes
  have hr := B.returns
  have hts := atoms_spec (ws := wsX0_moves) B.pre
  have hown : s.vm.findClass RX0 = some m.cls := findClass_of_methodNamed B.named
  have hlocks := B.notSynchronized
  have hAB : ∀ q : Nat, (fun q => B0 ≤ q) q → B0 ≤ q := fun _ h9 => h9
  have hS : va_S (fun q => B0 ≤ q) s.heap s.heap [] := va_S.rf
  have hin0 : ∀ w ∈ u_ws RX0 TX0 6, w ∈ wsX0_moves := fun _ h9 => List.mem_cons_of_mem _ (List.mem_append_right _ (h9))
  have hl := lv_entry ([.ref h0, .int a1, .int a2]) (n := 3) (Nat.le_of_ble_eq_true rfl)
  rw [lg_entry_eq]
  generalize (lg_sl ([.ref h0, .int a1, .int a2]) ++ List.replicate (3 - (lg_sl ([.ref h0, .int a1, .int a2])).length) Slot.unset).toArray = ls at hl ⊢
  have hl : lv_has ls 3 [(0, .ref h0), (1, .int a1), (2, .int a2)] := hl
  unfold fX0_moves at h
  refine lv_aload_n hx hb dX0_moves_0 rfl (lv_at hl 0 rfl) ?_
  refine lv_iload_n hx hb dX0_moves_1 rfl (lv_at hl 1 rfl) ?_
  refine lv_iload_n hx hb dX0_moves_2 rfl (lv_at hl 2 rfl) ?_
  obtain ⟨r2, h1, h⟩ := fb_b1s h
  refine fb_callR (W.runV (As := [.int a1, .int a2]) (rest := []) ⟨hx, hb, hml, hown, hts⟩ (metX0_noteAt l D cI h0 qf qn qw ql B0 sz mi fg nt wt wl a1 a2 r2 h1) (cwV 2 hts gX0_moves_X0_noteAt rfl rfl rfl (by decide +kernel) ⟨Nat.le_of_ble_eq_true rfl, Nat.le_of_ble_eq_true rfl⟩) (fb_preVR (ci := 0) fb_sX0p hP hK hZ hS hAB rfl rfl _) rfl rfl hl.1 rfl (lv_room (Nat.le_of_ble_eq_true rfl)) dX0_moves_3 ⟨Nat.le_of_ble_eq_true rfl, Nat.le_of_ble_eq_true rfl⟩) ?_
  refine lv_aload_n hx hb dX0_moves_6 rfl (lv_at hl 0 rfl) ?_
  refine lv_iload_n hx hb dX0_moves_7 rfl (lv_at hl 1 rfl) ?_
  refine lv_iconst (v := 1) hx hb dX0_moves_8 (by decide) ?_
  refine lv_isub hx hb dX0_moves_9 ?_
  refine lv_iload_n hx hb dX0_moves_10 rfl (lv_at hl 2 rfl) ?_
  obtain ⟨r4, h3, h⟩ := fb_b1s h
  refine fb_callR (W.runV (As := [.int (a1 - 1), .int a2]) (rest := [.int r2]) ⟨hx, hb, hml, hown, hts⟩ (metX0_noteAt l D cI h0 qf qn qw ql B0 sz mi fg nt wt wl (a1 - 1) a2 r4 h3) (cwV 2 hts gX0_moves_X0_noteAt rfl rfl rfl (by decide +kernel) ⟨Nat.le_of_ble_eq_true rfl, Nat.le_of_ble_eq_true rfl⟩) (fb_preVR (ci := 0) fb_sX0p hP hK hZ hS hAB rfl rfl _) rfl rfl hl.1 rfl (lv_room (Nat.le_of_ble_eq_true rfl)) dX0_moves_11 ⟨Nat.le_of_ble_eq_true rfl, Nat.le_of_ble_eq_true rfl⟩) ?_
  refine lv_icmp_eq (tgt := 21) hx hb dX0_moves_14 (by decide) (fun c5 => ?_) (fun c5 => ?_)
  · replace h := fb_it c5 h
    refine lv_iconst (v := 0) hx hb dX0_moves_21 (by decide) ?_
    cases h
    exact W.zret (ty := .boolean) hx hb hr rfl (fun t ht _ => ⟨rfl, ht⟩) (fun q hq => absurd hq List.not_mem_nil) dX0_moves_22
  · replace h := fb_ie c5 h
    refine lv_iconst (v := 1) hx hb dX0_moves_17 (by decide) ?_
    refine lv_goto (tgt := 22) hx hb dX0_moves_18 (by decide) ?_
    cases h
    exact W.zret (ty := .boolean) hx hb hr rfl (fun t ht _ => ⟨rfl, ht⟩) (fun q hq => absurd hq List.not_mem_nil) dX0_moves_22
abbrev rmX0_belongs : Room := { frames := 1, cells := 0, slots := 0, locals := 22 }
set_option maxHeartbeats 8000000 in
set_option maxRecDepth 100000 in
theorem metX0_belongs (l : Launch) (D : va_G) (cI : ClassId) (h0 qf qn qw ql B0 : Nat) (sz : Int32) (mi : Int32) (fg : Nat → Int32) (nt : Nat → Int32) (wt : Nat → Int32) (wl : Nat → Int32) (a1 : Int32) (a2 : Int32) (ro : Int32) (h : fX0_belongs sz mi fg nt wt wl a1 a2 = some ro) : Met l yX0_belongs wsX0_belongs rmX0_belongs (va_Pc [.ref h0, .int a1, .int a2] (fb_ok D [(cI, .int)] B0 fb_sX0 (fb_wX0 cI h0 qf qn qw ql sz mi fg nt wt wl))) (QcRead ro) 0 0 (fun _ => False) := by
  refine Met.ofW (cc := cX0_belongs) (maxL := 4) (ret := (some .boolean)) (by decide) rfl ?_
  intro p e s m args below meth c s₁ B hml hv
  obtain ⟨rfl, hP, hK, hZ⟩ := hv
  have hx := B.exec
  have hb := B.bytes
  have hr := B.returns
  have hts := atoms_spec (ws := wsX0_belongs) B.pre
  have hown : s.vm.findClass RX0 = some m.cls := findClass_of_methodNamed B.named
  have hlocks := B.notSynchronized
  have hAB : ∀ q : Nat, (fun q => B0 ≤ q) q → B0 ≤ q := fun _ h9 => h9
  have hS : va_S (fun q => B0 ≤ q) s.heap s.heap [] := va_S.rf
  obtain ⟨t_FIGURE_STEPS, hz_FIGURE_STEPS, ht_FIGURE_STEPS⟩ := fb_stA_narrow hZ.2.2.1 hAB
  have hin0 : ∀ w ∈ u_ws RX0 TX0 6, w ∈ wsX0_belongs := fun _ h9 => List.mem_cons_of_mem _ (List.mem_append_right _ (h9))
  have w_f132 : (Cond.fieldLink RX0 132 "FiguredBass" "FIGURE_STEPS" "[I") ∈ wsX0_belongs := List.mem_of_getElem? (i := 1) rfl
  have w_f17 : (Cond.fieldLink RX0 17 "FiguredBass" "figures" "[I") ∈ wsX0_belongs := List.mem_of_getElem? (i := 2) rfl
  have hl := lv_entry ([.ref h0, .int a1, .int a2]) (n := 4) (Nat.le_of_ble_eq_true rfl)
  rw [lg_entry_eq]
  generalize (lg_sl ([.ref h0, .int a1, .int a2]) ++ List.replicate (4 - (lg_sl ([.ref h0, .int a1, .int a2])).length) Slot.unset).toArray = ls at hl ⊢
  have hl : lv_has ls 4 [(0, .ref h0), (1, .int a1), (2, .int a2)] := hl
  unfold fX0_belongs at h
  refine lv_iconst (v := 1) hx hb dX0_belongs_0 (by decide) ?_
  refine lv_aload_n hx hb dX0_belongs_1 rfl (lv_at hl 0 rfl) ?_
  refine lv_iload_n hx hb dX0_belongs_2 rfl (lv_at hl 1 rfl) ?_
  refine lv_iconst (v := 0) hx hb dX0_belongs_3 (by decide) ?_
  obtain ⟨r2, h1, h⟩ := fb_b1s h
  refine fb_callR (W.runV (As := [.int a1, .int 0]) (rest := [.int 1]) ⟨hx, hb, hml, hown, hts⟩ (metX0_noteAt l D cI h0 qf qn qw ql B0 sz mi fg nt wt wl a1 0 r2 h1) (cwV 2 hts gX0_belongs_X0_noteAt rfl rfl rfl (by decide +kernel) ⟨Nat.le_of_ble_eq_true rfl, Nat.le_of_ble_eq_true rfl⟩) (fb_preVR (ci := 0) fb_sX0p hP hK hZ hS hAB rfl rfl _) rfl rfl hl.1 rfl (lv_room (Nat.le_of_ble_eq_true rfl)) dX0_belongs_4 ⟨Nat.le_of_ble_eq_true rfl, Nat.le_of_ble_eq_true rfl⟩) ?_
  refine lv_iload_n hx hb dX0_belongs_7 rfl (lv_at hl 2 rfl) ?_
  obtain ⟨r4, h3, h⟩ := fb_b1s h
  refine fb_callR (W.runS (As := [.int r2, .int a2]) (rest := [.int 1]) ⟨hx, hb, hml, hown, hts⟩ (metX0_stepAbove l B0 r2 a2 r4 h3) (va_cwS 2 hts gX0_belongs_X0_stepAbove rfl rfl rfl (by decide +kernel) ⟨Nat.le_of_ble_eq_true rfl, Nat.le_of_ble_eq_true rfl⟩) (fb_preS fb_sX0p hZ hS hAB _) rfl rfl hl.1 rfl (lv_room (Nat.le_of_ble_eq_true rfl)) dX0_belongs_8 ⟨Nat.le_of_ble_eq_true rfl, Nat.le_of_ble_eq_true rfl⟩) ?_
  refine lv_ishl hx hb dX0_belongs_11 ?_
  refine lv_istore_n (lv' := [(3, .int ((1 : Int32) <<< (r4 &&& 31))), (0, .ref h0), (1, .int a1), (2, .int a2)]) hx hb dX0_belongs_12 rfl hl (by decide) rfl (fun ls hl => ?_)
  refine va_gets hx hb hz_FIGURE_STEPS hS hown (hts _ w_f132) (fun _ h9 => h9) dX0_belongs_13 ?_
  refine lv_aload_n hx hb dX0_belongs_16 rfl (lv_at hl 1 rfl) ?_
  refine va_get (D := D) (ci := 0) (v := .ref qf) (C := RX0) (T := TX0) (N := 6) hx hb hts hin0 hown hK hP 0 rfl rfl 2 (by decide) (hts _ w_f17) (fun _ h9 => h9) rfl dX0_belongs_17 ?_
  refine lv_iload_n hx hb dX0_belongs_20 rfl (lv_at hl 2 rfl) ?_
  obtain ⟨hi5, h⟩ := fb_cks h
  refine va_iald hx hb hK hP 1 0 rfl rfl (fb_ixin hi5) dX0_belongs_21 ?_
  obtain ⟨hi6, h⟩ := fb_cks h
  refine va_ti hx hb ht_FIGURE_STEPS hS (fb_ixin hi6) rfl dX0_belongs_22 ?_
  refine lv_iload_n hx hb dX0_belongs_23 rfl (lv_at hl 0 rfl) ?_
  refine lv_iand hx hb dX0_belongs_24 ?_
  refine lv_if_eq (tgt := 32) hx hb dX0_belongs_25 (by decide) (fun c7 => ?_) (fun c7 => ?_)
  · replace h := fb_it c7 h
    refine lv_iconst (v := 0) hx hb dX0_belongs_32 (by decide) ?_
    cases h
    exact W.zret (ty := .boolean) hx hb hr rfl (fun t ht _ => ⟨rfl, ht⟩) (fun q hq => absurd hq List.not_mem_nil) dX0_belongs_33
  · replace h := fb_ie c7 h
    refine lv_iconst (v := 1) hx hb dX0_belongs_28 (by decide) ?_
    refine lv_goto (tgt := 33) hx hb dX0_belongs_29 (by decide) ?_
    cases h
    exact W.zret (ty := .boolean) hx hb hr rfl (fun t ht _ => ⟨rfl, ht⟩) (fun q hq => absurd hq List.not_mem_nil) dX0_belongs_33
abbrev rmX0_isSet : Room := { frames := 1, cells := 0, slots := 0, locals := 22 }
set_option maxHeartbeats 8000000 in
set_option maxRecDepth 100000 in
theorem metX0_isSet (l : Launch) (D : va_G) (cI : ClassId) (h0 qf qn qw ql B0 : Nat) (sz : Int32) (mi : Int32) (fg : Nat → Int32) (nt : Nat → Int32) (wt : Nat → Int32) (wl : Nat → Int32) (a1 : Int32) (ro : Int32) (h : fX0_isSet sz mi fg nt wt wl a1 = some ro) : Met l yX0_isSet wsX0_isSet rmX0_isSet (va_Pc [.ref h0, .int a1] (fb_ok D [(cI, .int)] B0 fb_sX0 (fb_wX0 cI h0 qf qn qw ql sz mi fg nt wt wl))) (QcRead ro) 0 0 (fun _ => False) := by
  refine Met.ofW (cc := cX0_isSet) (maxL := 2) (ret := (some .boolean)) (by decide) rfl ?_
  intro p e s m args below meth c s₁ B hml hv
  obtain ⟨rfl, hP, hK, hZ⟩ := hv
  have hx := B.exec
  have hb := B.bytes
  have hr := B.returns
  have hts := atoms_spec (ws := wsX0_isSet) B.pre
  have hown : s.vm.findClass RX0 = some m.cls := findClass_of_methodNamed B.named
  have hlocks := B.notSynchronized
  have hAB : ∀ q : Nat, (fun q => B0 ≤ q) q → B0 ≤ q := fun _ h9 => h9
  have hS : va_S (fun q => B0 ≤ q) s.heap s.heap [] := va_S.rf
  have hin0 : ∀ w ∈ u_ws RX0 TX0 6, w ∈ wsX0_isSet := fun _ h9 => List.mem_cons_of_mem _ (List.mem_append_right _ (h9))
  have hl := lv_entry ([.ref h0, .int a1]) (n := 2) (Nat.le_of_ble_eq_true rfl)
  rw [lg_entry_eq]
  generalize (lg_sl ([.ref h0, .int a1]) ++ List.replicate (2 - (lg_sl ([.ref h0, .int a1])).length) Slot.unset).toArray = ls at hl ⊢
  have hl : lv_has ls 2 [(0, .ref h0), (1, .int a1)] := hl
  unfold fX0_isSet at h
  refine lv_aload_n hx hb dX0_isSet_0 rfl (lv_at hl 0 rfl) ?_
  refine lv_iload_n hx hb dX0_isSet_1 rfl (lv_at hl 1 rfl) ?_
  obtain ⟨r2, h1, h⟩ := fb_b1s h
  refine fb_callR (W.runV (As := [.int a1]) (rest := []) ⟨hx, hb, hml, hown, hts⟩ (metX0_isChord l D cI h0 qf qn qw ql B0 sz mi fg nt wt wl a1 r2 h1) (cwV 1 hts gX0_isSet_X0_isChord rfl rfl rfl (by decide +kernel) ⟨Nat.le_of_ble_eq_true rfl, Nat.le_of_ble_eq_true rfl⟩) (fb_preVR (ci := 0) fb_sX0p hP hK hZ hS hAB rfl rfl _) rfl rfl hl.1 rfl (lv_room (Nat.le_of_ble_eq_true rfl)) dX0_isSet_2 ⟨Nat.le_of_ble_eq_true rfl, Nat.le_of_ble_eq_true rfl⟩) ?_
  refine lv_if_eq (tgt := 42) hx hb dX0_isSet_5 (by decide) (fun c3 => ?_) (fun c3 => ?_)
  · replace h := fb_it c3 h
    refine lv_iconst (v := 0) hx hb dX0_isSet_42 (by decide) ?_
    cases h
    exact W.zret (ty := .boolean) hx hb hr rfl (fun t ht _ => ⟨rfl, ht⟩) (fun q hq => absurd hq List.not_mem_nil) dX0_isSet_43
  · replace h := fb_ie c3 h
    refine lv_aload_n hx hb dX0_isSet_8 rfl (lv_at hl 0 rfl) ?_
    refine lv_iload_n hx hb dX0_isSet_9 rfl (lv_at hl 1 rfl) ?_
    refine lv_iconst (v := 1) hx hb dX0_isSet_10 (by decide) ?_
    obtain ⟨r6, h5, h⟩ := fb_b1s h
    refine fb_callR (W.runV (As := [.int a1, .int 1]) (rest := []) ⟨hx, hb, hml, hown, hts⟩ (metX0_noteAt l D cI h0 qf qn qw ql B0 sz mi fg nt wt wl a1 1 r6 h5) (cwV 2 hts gX0_isSet_X0_noteAt rfl rfl rfl (by decide +kernel) ⟨Nat.le_of_ble_eq_true rfl, Nat.le_of_ble_eq_true rfl⟩) (fb_preVR (ci := 0) fb_sX0p hP hK hZ hS hAB rfl rfl _) rfl rfl hl.1 rfl (lv_room (Nat.le_of_ble_eq_true rfl)) dX0_isSet_11 ⟨Nat.le_of_ble_eq_true rfl, Nat.le_of_ble_eq_true rfl⟩) ?_
    refine lv_iconst (v := (-1)) hx hb dX0_isSet_14 (by decide) ?_
    refine lv_icmp_eq (tgt := 42) hx hb dX0_isSet_15 (by decide) (fun c7 => ?_) (fun c7 => ?_)
    · replace h := fb_it c7 h
      refine lv_iconst (v := 0) hx hb dX0_isSet_42 (by decide) ?_
      cases h
      exact W.zret (ty := .boolean) hx hb hr rfl (fun t ht _ => ⟨rfl, ht⟩) (fun q hq => absurd hq List.not_mem_nil) dX0_isSet_43
    · replace h := fb_ie c7 h
      refine lv_aload_n hx hb dX0_isSet_18 rfl (lv_at hl 0 rfl) ?_
      refine lv_iload_n hx hb dX0_isSet_19 rfl (lv_at hl 1 rfl) ?_
      refine lv_iconst (v := 2) hx hb dX0_isSet_20 (by decide) ?_
      obtain ⟨r10, h9, h⟩ := fb_b1s h
      refine fb_callR (W.runV (As := [.int a1, .int 2]) (rest := []) ⟨hx, hb, hml, hown, hts⟩ (metX0_noteAt l D cI h0 qf qn qw ql B0 sz mi fg nt wt wl a1 2 r10 h9) (cwV 2 hts gX0_isSet_X0_noteAt rfl rfl rfl (by decide +kernel) ⟨Nat.le_of_ble_eq_true rfl, Nat.le_of_ble_eq_true rfl⟩) (fb_preVR (ci := 0) fb_sX0p hP hK hZ hS hAB rfl rfl _) rfl rfl hl.1 rfl (lv_room (Nat.le_of_ble_eq_true rfl)) dX0_isSet_21 ⟨Nat.le_of_ble_eq_true rfl, Nat.le_of_ble_eq_true rfl⟩) ?_
      refine lv_iconst (v := (-1)) hx hb dX0_isSet_24 (by decide) ?_
      refine lv_icmp_eq (tgt := 42) hx hb dX0_isSet_25 (by decide) (fun c11 => ?_) (fun c11 => ?_)
      · replace h := fb_it c11 h
        refine lv_iconst (v := 0) hx hb dX0_isSet_42 (by decide) ?_
        cases h
        exact W.zret (ty := .boolean) hx hb hr rfl (fun t ht _ => ⟨rfl, ht⟩) (fun q hq => absurd hq List.not_mem_nil) dX0_isSet_43
      · replace h := fb_ie c11 h
        refine lv_aload_n hx hb dX0_isSet_28 rfl (lv_at hl 0 rfl) ?_
        refine lv_iload_n hx hb dX0_isSet_29 rfl (lv_at hl 1 rfl) ?_
        refine lv_iconst (v := 3) hx hb dX0_isSet_30 (by decide) ?_
        obtain ⟨r14, h13, h⟩ := fb_b1s h
        refine fb_callR (W.runV (As := [.int a1, .int 3]) (rest := []) ⟨hx, hb, hml, hown, hts⟩ (metX0_noteAt l D cI h0 qf qn qw ql B0 sz mi fg nt wt wl a1 3 r14 h13) (cwV 2 hts gX0_isSet_X0_noteAt rfl rfl rfl (by decide +kernel) ⟨Nat.le_of_ble_eq_true rfl, Nat.le_of_ble_eq_true rfl⟩) (fb_preVR (ci := 0) fb_sX0p hP hK hZ hS hAB rfl rfl _) rfl rfl hl.1 rfl (lv_room (Nat.le_of_ble_eq_true rfl)) dX0_isSet_31 ⟨Nat.le_of_ble_eq_true rfl, Nat.le_of_ble_eq_true rfl⟩) ?_
        refine lv_iconst (v := (-1)) hx hb dX0_isSet_34 (by decide) ?_
        refine lv_icmp_eq (tgt := 42) hx hb dX0_isSet_35 (by decide) (fun c15 => ?_) (fun c15 => ?_)
        · replace h := fb_it c15 h
          refine lv_iconst (v := 0) hx hb dX0_isSet_42 (by decide) ?_
          cases h
          exact W.zret (ty := .boolean) hx hb hr rfl (fun t ht _ => ⟨rfl, ht⟩) (fun q hq => absurd hq List.not_mem_nil) dX0_isSet_43
        · replace h := fb_ie c15 h
          refine lv_iconst (v := 1) hx hb dX0_isSet_38 (by decide) ?_
          refine lv_goto (tgt := 43) hx hb dX0_isSet_39 (by decide) ?_
          cases h
          exact W.zret (ty := .boolean) hx hb hr rfl (fun t ht _ => ⟨rfl, ht⟩) (fun q hq => absurd hq List.not_mem_nil) dX0_isSet_43
abbrev rmX0_isRightWith : Room := { frames := 1, cells := 0, slots := 0, locals := 22 }
set_option maxHeartbeats 8000000 in
set_option maxRecDepth 100000 in
theorem metX0_isRightWith (l : Launch) (D : va_G) (cI : ClassId) (h0 qf qn qw ql B0 : Nat) (sz : Int32) (mi : Int32) (fg : Nat → Int32) (nt : Nat → Int32) (wt : Nat → Int32) (wl : Nat → Int32) (a1 : Int32) (a2 : Int32) (a3 : Int32) (a4 : Int32) (ro : Int32) (h : fX0_isRightWith sz mi fg nt wt wl a1 a2 a3 a4 = some ro) : Met l yX0_isRightWith wsX0_isRightWith rmX0_isRightWith (va_Pc [.ref h0, .int a1, .int a2, .int a3, .int a4] (fb_ok D [(cI, .int)] B0 fb_sX0 (fb_wX0 cI h0 qf qn qw ql sz mi fg nt wt wl))) (QcRead ro) 0 0 (fun _ => False) := by
  refine Met.ofW (cc := cX0_isRightWith) (maxL := 7) (ret := (some .boolean)) (by decide) rfl ?_
  intro p e s m args below meth c s₁ B hml hv
  obtain ⟨rfl, hP, hK, hZ⟩ := hv
  have hx := B.exec
  have hb := B.bytes
  have hr := B.returns
  have hts := atoms_spec (ws := wsX0_isRightWith) B.pre
  have hown : s.vm.findClass RX0 = some m.cls := findClass_of_methodNamed B.named
  have hlocks := B.notSynchronized
  have hAB : ∀ q : Nat, (fun q => B0 ≤ q) q → B0 ≤ q := fun _ h9 => h9
  have hS : va_S (fun q => B0 ≤ q) s.heap s.heap [] := va_S.rf
  obtain ⟨t_FIGURE_STEPS, hz_FIGURE_STEPS, ht_FIGURE_STEPS⟩ := fb_stA_narrow hZ.2.2.1 hAB
  have hin0 : ∀ w ∈ u_ws RX0 TX0 6, w ∈ wsX0_isRightWith := fun _ h9 => List.mem_cons_of_mem _ (List.mem_append_right _ (h9))
  have w_f132 : (Cond.fieldLink RX0 132 "FiguredBass" "FIGURE_STEPS" "[I") ∈ wsX0_isRightWith := List.mem_of_getElem? (i := 1) rfl
  have w_f17 : (Cond.fieldLink RX0 17 "FiguredBass" "figures" "[I") ∈ wsX0_isRightWith := List.mem_of_getElem? (i := 2) rfl
  have hl := lv_entry ([.ref h0, .int a1, .int a2, .int a3, .int a4]) (n := 7) (Nat.le_of_ble_eq_true rfl)
  rw [lg_entry_eq]
  generalize (lg_sl ([.ref h0, .int a1, .int a2, .int a3, .int a4]) ++ List.replicate (7 - (lg_sl ([.ref h0, .int a1, .int a2, .int a3, .int a4])).length) Slot.unset).toArray = ls at hl ⊢
  have hl : lv_has ls 7 [(0, .ref h0), (1, .int a1), (2, .int a2), (3, .int a3), (4, .int a4)] := hl
  unfold fX0_isRightWith at h
  refine lv_aload_n hx hb dX0_isRightWith_0 rfl (lv_at hl 0 rfl) ?_
  refine lv_iload_n hx hb dX0_isRightWith_1 rfl (lv_at hl 1 rfl) ?_
  refine lv_iconst (v := 0) hx hb dX0_isRightWith_2 (by decide) ?_
  obtain ⟨r2, h1, h⟩ := fb_b1s h
  refine fb_callR (W.runV (As := [.int a1, .int 0]) (rest := []) ⟨hx, hb, hml, hown, hts⟩ (metX0_noteAt l D cI h0 qf qn qw ql B0 sz mi fg nt wt wl a1 0 r2 h1) (cwV 2 hts gX0_isRightWith_X0_noteAt rfl rfl rfl (by decide +kernel) ⟨Nat.le_of_ble_eq_true rfl, Nat.le_of_ble_eq_true rfl⟩) (fb_preVR (ci := 0) fb_sX0p hP hK hZ hS hAB rfl rfl _) rfl rfl hl.1 rfl (lv_room (Nat.le_of_ble_eq_true rfl)) dX0_isRightWith_3 ⟨Nat.le_of_ble_eq_true rfl, Nat.le_of_ble_eq_true rfl⟩) ?_
  refine lv_istore (lv' := [(5, .int r2), (0, .ref h0), (1, .int a1), (2, .int a2), (3, .int a3), (4, .int a4)]) hx hb dX0_isRightWith_6 hl (by decide) rfl (fun ls hl => ?_)
  refine lv_iload_n hx hb dX0_isRightWith_8 rfl (lv_at hl 3 rfl) ?_
  refine lv_iload hx hb dX0_isRightWith_9 (lv_at hl 0 rfl) ?_
  refine lv_icmp_lt (tgt := 25) hx hb dX0_isRightWith_11 (by decide) (fun c3 => ?_) (fun c3 => ?_)
  · replace h := fb_it c3 h
    refine lv_iconst (v := 0) hx hb dX0_isRightWith_25 (by decide) ?_
    cases h
    exact W.zret (ty := .boolean) hx hb hr rfl (fun t ht _ => ⟨rfl, ht⟩) (fun q hq => absurd hq List.not_mem_nil) dX0_isRightWith_26
  · replace h := fb_ie c3 h
    refine lv_iload_n hx hb dX0_isRightWith_14 rfl (lv_at hl 4 rfl) ?_
    refine lv_iload_n hx hb dX0_isRightWith_15 rfl (lv_at hl 3 rfl) ?_
    refine lv_icmp_lt (tgt := 25) hx hb dX0_isRightWith_16 (by decide) (fun c5 => ?_) (fun c5 => ?_)
    · replace h := fb_it c5 h
      refine lv_iconst (v := 0) hx hb dX0_isRightWith_25 (by decide) ?_
      cases h
      exact W.zret (ty := .boolean) hx hb hr rfl (fun t ht _ => ⟨rfl, ht⟩) (fun q hq => absurd hq List.not_mem_nil) dX0_isRightWith_26
    · replace h := fb_ie c5 h
      refine lv_iload hx hb dX0_isRightWith_19 (lv_at hl 5 rfl) ?_
      refine lv_iload_n hx hb dX0_isRightWith_21 rfl (lv_at hl 4 rfl) ?_
      refine lv_icmp_ge (tgt := 27) hx hb dX0_isRightWith_22 (by decide) (fun c7 => ?_) (fun c7 => ?_)
      · replace h := fb_it c7 h
        refine lv_iconst (v := 1) hx hb dX0_isRightWith_27 (by decide) ?_
        refine lv_istore (lv' := [(6, .int 1), (5, .int r2), (0, .ref h0), (1, .int a1), (2, .int a2), (3, .int a3), (4, .int a4)]) hx hb dX0_isRightWith_28 hl (by decide) rfl (fun ls hl => ?_)
        refine lv_iload hx hb dX0_isRightWith_30 (lv_at hl 0 rfl) ?_
        refine lv_iconst (v := 1) hx hb dX0_isRightWith_32 (by decide) ?_
        refine lv_iload hx hb dX0_isRightWith_33 (lv_at hl 1 rfl) ?_
        refine lv_iload_n hx hb dX0_isRightWith_35 rfl (lv_at hl 4 rfl) ?_
        obtain ⟨r9, h8, h⟩ := fb_b1s h
        refine fb_callR (W.runS (As := [.int r2, .int a2]) (rest := [.int 1, .int 1]) ⟨hx, hb, hml, hown, hts⟩ (metX0_stepAbove l B0 r2 a2 r9 h8) (va_cwS 2 hts gX0_isRightWith_X0_stepAbove rfl rfl rfl (by decide +kernel) ⟨Nat.le_of_ble_eq_true rfl, Nat.le_of_ble_eq_true rfl⟩) (fb_preS fb_sX0p hZ hS hAB _) rfl rfl hl.1 rfl (lv_room (Nat.le_of_ble_eq_true rfl)) dX0_isRightWith_36 ⟨Nat.le_of_ble_eq_true rfl, Nat.le_of_ble_eq_true rfl⟩) ?_
        refine lv_ishl hx hb dX0_isRightWith_39 ?_
        refine lv_ior hx hb dX0_isRightWith_40 ?_
        refine lv_istore (lv' := [(6, .int ((1 : Int32) ||| ((1 : Int32) <<< (r9 &&& 31)))), (5, .int r2), (0, .ref h0), (1, .int a1), (2, .int a2), (3, .int a3), (4, .int a4)]) hx hb dX0_isRightWith_41 hl (by decide) rfl (fun ls hl => ?_)
        refine lv_iload hx hb dX0_isRightWith_43 (lv_at hl 0 rfl) ?_
        refine lv_iconst (v := 1) hx hb dX0_isRightWith_45 (by decide) ?_
        refine lv_iload hx hb dX0_isRightWith_46 (lv_at hl 1 rfl) ?_
        refine lv_iload_n hx hb dX0_isRightWith_48 rfl (lv_at hl 5 rfl) ?_
        obtain ⟨r11, h10, h⟩ := fb_b1s h
        refine fb_callR (W.runS (As := [.int r2, .int a3]) (rest := [.int 1, .int ((1 : Int32) ||| ((1 : Int32) <<< (r9 &&& 31)))]) ⟨hx, hb, hml, hown, hts⟩ (metX0_stepAbove l B0 r2 a3 r11 h10) (va_cwS 2 hts gX0_isRightWith_X0_stepAbove rfl rfl rfl (by decide +kernel) ⟨Nat.le_of_ble_eq_true rfl, Nat.le_of_ble_eq_true rfl⟩) (fb_preS fb_sX0p hZ hS hAB _) rfl rfl hl.1 rfl (lv_room (Nat.le_of_ble_eq_true rfl)) dX0_isRightWith_49 ⟨Nat.le_of_ble_eq_true rfl, Nat.le_of_ble_eq_true rfl⟩) ?_
        refine lv_ishl hx hb dX0_isRightWith_52 ?_
        refine lv_ior hx hb dX0_isRightWith_53 ?_
        refine lv_istore (lv' := [(6, .int (((1 : Int32) ||| ((1 : Int32) <<< (r9 &&& 31))) ||| ((1 : Int32) <<< (r11 &&& 31)))), (5, .int r2), (0, .ref h0), (1, .int a1), (2, .int a2), (3, .int a3), (4, .int a4)]) hx hb dX0_isRightWith_54 hl (by decide) rfl (fun ls hl => ?_)
        refine lv_iload hx hb dX0_isRightWith_56 (lv_at hl 0 rfl) ?_
        refine lv_iconst (v := 1) hx hb dX0_isRightWith_58 (by decide) ?_
        refine lv_iload hx hb dX0_isRightWith_59 (lv_at hl 1 rfl) ?_
        refine lv_iload hx hb dX0_isRightWith_61 (lv_at hl 6 rfl) ?_
        obtain ⟨r13, h12, h⟩ := fb_b1s h
        refine fb_callR (W.runS (As := [.int r2, .int a4]) (rest := [.int 1, .int (((1 : Int32) ||| ((1 : Int32) <<< (r9 &&& 31))) ||| ((1 : Int32) <<< (r11 &&& 31)))]) ⟨hx, hb, hml, hown, hts⟩ (metX0_stepAbove l B0 r2 a4 r13 h12) (va_cwS 2 hts gX0_isRightWith_X0_stepAbove rfl rfl rfl (by decide +kernel) ⟨Nat.le_of_ble_eq_true rfl, Nat.le_of_ble_eq_true rfl⟩) (fb_preS fb_sX0p hZ hS hAB _) rfl rfl hl.1 rfl (lv_room (Nat.le_of_ble_eq_true rfl)) dX0_isRightWith_63 ⟨Nat.le_of_ble_eq_true rfl, Nat.le_of_ble_eq_true rfl⟩) ?_
        refine lv_ishl hx hb dX0_isRightWith_66 ?_
        refine lv_ior hx hb dX0_isRightWith_67 ?_
        refine lv_istore (lv' := [(6, .int ((((1 : Int32) ||| ((1 : Int32) <<< (r9 &&& 31))) ||| ((1 : Int32) <<< (r11 &&& 31))) ||| ((1 : Int32) <<< (r13 &&& 31)))), (5, .int r2), (0, .ref h0), (1, .int a1), (2, .int a2), (3, .int a3), (4, .int a4)]) hx hb dX0_isRightWith_68 hl (by decide) rfl (fun ls hl => ?_)
        refine lv_iload hx hb dX0_isRightWith_70 (lv_at hl 0 rfl) ?_
        refine va_gets hx hb hz_FIGURE_STEPS hS hown (hts _ w_f132) (fun _ h9 => h9) dX0_isRightWith_72 ?_
        refine lv_aload_n hx hb dX0_isRightWith_75 rfl (lv_at hl 2 rfl) ?_
        refine va_get (D := D) (ci := 0) (v := .ref qf) (C := RX0) (T := TX0) (N := 6) hx hb hts hin0 hown hK hP 0 rfl rfl 2 (by decide) (hts _ w_f17) (fun _ h9 => h9) rfl dX0_isRightWith_76 ?_
        refine lv_iload_n hx hb dX0_isRightWith_79 rfl (lv_at hl 3 rfl) ?_
        obtain ⟨hi14, h⟩ := fb_cks h
        refine va_iald hx hb hK hP 1 0 rfl rfl (fb_ixin hi14) dX0_isRightWith_80 ?_
        obtain ⟨hi15, h⟩ := fb_cks h
        refine va_ti hx hb ht_FIGURE_STEPS hS (fb_ixin hi15) rfl dX0_isRightWith_81 ?_
        refine lv_icmp_ne (tgt := 89) hx hb dX0_isRightWith_82 (by decide) (fun c16 => ?_) (fun c16 => ?_)
        · replace h := fb_ie c16 h
          refine lv_iconst (v := 0) hx hb dX0_isRightWith_89 (by decide) ?_
          cases h
          exact W.zret (ty := .boolean) hx hb hr rfl (fun t ht _ => ⟨rfl, ht⟩) (fun q hq => absurd hq List.not_mem_nil) dX0_isRightWith_90
        · replace h := fb_it c16 h
          refine lv_iconst (v := 1) hx hb dX0_isRightWith_85 (by decide) ?_
          refine lv_goto (tgt := 90) hx hb dX0_isRightWith_86 (by decide) ?_
          cases h
          exact W.zret (ty := .boolean) hx hb hr rfl (fun t ht _ => ⟨rfl, ht⟩) (fun q hq => absurd hq List.not_mem_nil) dX0_isRightWith_90
      · replace h := fb_ie c7 h
        refine lv_iconst (v := 0) hx hb dX0_isRightWith_25 (by decide) ?_
        cases h
        exact W.zret (ty := .boolean) hx hb hr rfl (fun t ht _ => ⟨rfl, ht⟩) (fun q hq => absurd hq List.not_mem_nil) dX0_isRightWith_26
abbrev rmX0_isRight : Room := { frames := 2, cells := 0, slots := 0, locals := 48 }
set_option maxHeartbeats 8000000 in
set_option maxRecDepth 100000 in
theorem metX0_isRight (l : Launch) (D : va_G) (cI : ClassId) (h0 qf qn qw ql B0 : Nat) (sz : Int32) (mi : Int32) (fg : Nat → Int32) (nt : Nat → Int32) (wt : Nat → Int32) (wl : Nat → Int32) (a1 : Int32) (ro : Int32) (h : fX0_isRight sz mi fg nt wt wl a1 = some ro) : Met l yX0_isRight wsX0_isRight rmX0_isRight (va_Pc [.ref h0, .int a1] (fb_ok D [(cI, .int)] B0 fb_sX0 (fb_wX0 cI h0 qf qn qw ql sz mi fg nt wt wl))) (QcRead ro) 0 0 (fun _ => False) := by
  refine Met.ofW (cc := cX0_isRight) (maxL := 2) (ret := (some .boolean)) (by decide) rfl ?_
  intro p e s m args below meth c s₁ B hml hv
  obtain ⟨rfl, hP, hK, hZ⟩ := hv
  have hx := B.exec
  have hb := B.bytes
  have hr := B.returns
  have hts := atoms_spec (ws := wsX0_isRight) B.pre
  have hown : s.vm.findClass RX0 = some m.cls := findClass_of_methodNamed B.named
  have hlocks := B.notSynchronized
  have hAB : ∀ q : Nat, (fun q => B0 ≤ q) q → B0 ≤ q := fun _ h9 => h9
  have hS : va_S (fun q => B0 ≤ q) s.heap s.heap [] := va_S.rf
  have hin0 : ∀ w ∈ u_ws RX0 TX0 6, w ∈ wsX0_isRight := fun _ h9 => List.mem_cons_of_mem _ (List.mem_append_right _ (h9))
  have hl := lv_entry ([.ref h0, .int a1]) (n := 2) (Nat.le_of_ble_eq_true rfl)
  rw [lg_entry_eq]
  generalize (lg_sl ([.ref h0, .int a1]) ++ List.replicate (2 - (lg_sl ([.ref h0, .int a1])).length) Slot.unset).toArray = ls at hl ⊢
  have hl : lv_has ls 2 [(0, .ref h0), (1, .int a1)] := hl
  unfold fX0_isRight at h
  refine lv_aload_n hx hb dX0_isRight_0 rfl (lv_at hl 0 rfl) ?_
  refine lv_iload_n hx hb dX0_isRight_1 rfl (lv_at hl 1 rfl) ?_
  obtain ⟨r2, h1, h⟩ := fb_b1s h
  refine fb_callR (W.runV (As := [.int a1]) (rest := []) ⟨hx, hb, hml, hown, hts⟩ (metX0_isSet l D cI h0 qf qn qw ql B0 sz mi fg nt wt wl a1 r2 h1) (cwV 1 hts gX0_isRight_X0_isSet rfl rfl rfl (by decide +kernel) ⟨Nat.le_of_ble_eq_true rfl, Nat.le_of_ble_eq_true rfl⟩) (fb_preVR (ci := 0) fb_sX0p hP hK hZ hS hAB rfl rfl _) rfl rfl hl.1 rfl (lv_room (Nat.le_of_ble_eq_true rfl)) dX0_isRight_2 ⟨Nat.le_of_ble_eq_true rfl, Nat.le_of_ble_eq_true rfl⟩) ?_
  refine lv_if_eq (tgt := 38) hx hb dX0_isRight_5 (by decide) (fun c3 => ?_) (fun c3 => ?_)
  · replace h := fb_it c3 h
    refine lv_iconst (v := 0) hx hb dX0_isRight_38 (by decide) ?_
    cases h
    exact W.zret (ty := .boolean) hx hb hr rfl (fun t ht _ => ⟨rfl, ht⟩) (fun q hq => absurd hq List.not_mem_nil) dX0_isRight_39
  · replace h := fb_ie c3 h
    refine lv_aload_n hx hb dX0_isRight_8 rfl (lv_at hl 0 rfl) ?_
    refine lv_iload_n hx hb dX0_isRight_9 rfl (lv_at hl 1 rfl) ?_
    refine lv_aload_n hx hb dX0_isRight_10 rfl (lv_at hl 0 rfl) ?_
    refine lv_iload_n hx hb dX0_isRight_11 rfl (lv_at hl 1 rfl) ?_
    refine lv_iconst (v := 1) hx hb dX0_isRight_12 (by decide) ?_
    obtain ⟨r6, h5, h⟩ := fb_b1s h
    refine fb_callR (W.runV (As := [.int a1, .int 1]) (rest := [.int a1, .ref h0]) ⟨hx, hb, hml, hown, hts⟩ (metX0_noteAt l D cI h0 qf qn qw ql B0 sz mi fg nt wt wl a1 1 r6 h5) (cwV 2 hts gX0_isRight_X0_noteAt rfl rfl rfl (by decide +kernel) ⟨Nat.le_of_ble_eq_true rfl, Nat.le_of_ble_eq_true rfl⟩) (fb_preVR (ci := 0) fb_sX0p hP hK hZ hS hAB rfl rfl _) rfl rfl hl.1 rfl (lv_room (Nat.le_of_ble_eq_true rfl)) dX0_isRight_13 ⟨Nat.le_of_ble_eq_true rfl, Nat.le_of_ble_eq_true rfl⟩) ?_
    refine lv_aload_n hx hb dX0_isRight_16 rfl (lv_at hl 0 rfl) ?_
    refine lv_iload_n hx hb dX0_isRight_17 rfl (lv_at hl 1 rfl) ?_
    refine lv_iconst (v := 2) hx hb dX0_isRight_18 (by decide) ?_
    obtain ⟨r8, h7, h⟩ := fb_b1s h
    refine fb_callR (W.runV (As := [.int a1, .int 2]) (rest := [.int r6, .int a1, .ref h0]) ⟨hx, hb, hml, hown, hts⟩ (metX0_noteAt l D cI h0 qf qn qw ql B0 sz mi fg nt wt wl a1 2 r8 h7) (cwV 2 hts gX0_isRight_X0_noteAt rfl rfl rfl (by decide +kernel) ⟨Nat.le_of_ble_eq_true rfl, Nat.le_of_ble_eq_true rfl⟩) (fb_preVR (ci := 0) fb_sX0p hP hK hZ hS hAB rfl rfl _) rfl rfl hl.1 rfl (lv_room (Nat.le_of_ble_eq_true rfl)) dX0_isRight_19 ⟨Nat.le_of_ble_eq_true rfl, Nat.le_of_ble_eq_true rfl⟩) ?_
    refine lv_aload_n hx hb dX0_isRight_22 rfl (lv_at hl 0 rfl) ?_
    refine lv_iload_n hx hb dX0_isRight_23 rfl (lv_at hl 1 rfl) ?_
    refine lv_iconst (v := 3) hx hb dX0_isRight_24 (by decide) ?_
    obtain ⟨r10, h9, h⟩ := fb_b1s h
    refine fb_callR (W.runV (As := [.int a1, .int 3]) (rest := [.int r8, .int r6, .int a1, .ref h0]) ⟨hx, hb, hml, hown, hts⟩ (metX0_noteAt l D cI h0 qf qn qw ql B0 sz mi fg nt wt wl a1 3 r10 h9) (cwV 2 hts gX0_isRight_X0_noteAt rfl rfl rfl (by decide +kernel) ⟨Nat.le_of_ble_eq_true rfl, Nat.le_of_ble_eq_true rfl⟩) (fb_preVR (ci := 0) fb_sX0p hP hK hZ hS hAB rfl rfl _) rfl rfl hl.1 rfl (lv_room (Nat.le_of_ble_eq_true rfl)) dX0_isRight_25 ⟨Nat.le_of_ble_eq_true rfl, Nat.le_of_ble_eq_true rfl⟩) ?_
    obtain ⟨r12, h11, h⟩ := fb_b1s h
    refine fb_callR (W.runV (As := [.int a1, .int r6, .int r8, .int r10]) (rest := []) ⟨hx, hb, hml, hown, hts⟩ (metX0_isRightWith l D cI h0 qf qn qw ql B0 sz mi fg nt wt wl a1 r6 r8 r10 r12 h11) (cwV 4 hts gX0_isRight_X0_isRightWith rfl rfl rfl (by decide +kernel) ⟨Nat.le_of_ble_eq_true rfl, Nat.le_of_ble_eq_true rfl⟩) (fb_preVR (ci := 0) fb_sX0p hP hK hZ hS hAB rfl rfl _) rfl rfl hl.1 rfl (lv_room (Nat.le_of_ble_eq_true rfl)) dX0_isRight_28 ⟨Nat.le_of_ble_eq_true rfl, Nat.le_of_ble_eq_true rfl⟩) ?_
    refine lv_if_eq (tgt := 38) hx hb dX0_isRight_31 (by decide) (fun c13 => ?_) (fun c13 => ?_)
    · replace h := fb_it c13 h
      refine lv_iconst (v := 0) hx hb dX0_isRight_38 (by decide) ?_
      cases h
      exact W.zret (ty := .boolean) hx hb hr rfl (fun t ht _ => ⟨rfl, ht⟩) (fun q hq => absurd hq List.not_mem_nil) dX0_isRight_39
    · replace h := fb_ie c13 h
      refine lv_iconst (v := 1) hx hb dX0_isRight_34 (by decide) ?_
      refine lv_goto (tgt := 39) hx hb dX0_isRight_35 (by decide) ?_
      cases h
      exact W.zret (ty := .boolean) hx hb hr rfl (fun t ht _ => ⟨rfl, ht⟩) (fun q hq => absurd hq List.not_mem_nil) dX0_isRight_39
abbrev rmX0_follows : Room := { frames := 2, cells := 0, slots := 0, locals := 43 }
set_option maxHeartbeats 8000000 in
set_option maxRecDepth 100000 in
theorem metX0_follows (l : Launch) (D : va_G) (cI : ClassId) (h0 qf qn qw ql B0 : Nat) (sz : Int32) (mi : Int32) (fg : Nat → Int32) (nt : Nat → Int32) (wt : Nat → Int32) (wl : Nat → Int32) (a1 : Int32) (ro : Int32) (h : fX0_follows sz mi fg nt wt wl a1 = some ro) : Met l yX0_follows wsX0_follows rmX0_follows (va_Pc [.ref h0, .int a1] (fb_ok D [(cI, .int)] B0 fb_sX0 (fb_wX0 cI h0 qf qn qw ql sz mi fg nt wt wl))) (QcRead ro) 0 0 (fun _ => False) := by
  refine Met.ofW (cc := cX0_follows) (maxL := 2) (ret := (some .boolean)) (by decide) rfl ?_
  intro p e s m args below meth c s₁ B hml hv
  obtain ⟨rfl, hP, hK, hZ⟩ := hv
  have hx := B.exec
  have hb := B.bytes
  have hr := B.returns
  have hts := atoms_spec (ws := wsX0_follows) B.pre
  have hown : s.vm.findClass RX0 = some m.cls := findClass_of_methodNamed B.named
  have hlocks := B.notSynchronized
  have hAB : ∀ q : Nat, (fun q => B0 ≤ q) q → B0 ≤ q := fun _ h9 => h9
  have hS : va_S (fun q => B0 ≤ q) s.heap s.heap [] := va_S.rf
  have hin0 : ∀ w ∈ u_ws RX0 TX0 6, w ∈ wsX0_follows := fun _ h9 => List.mem_cons_of_mem _ (List.mem_append_right _ (h9))
  have hl := lv_entry ([.ref h0, .int a1]) (n := 2) (Nat.le_of_ble_eq_true rfl)
  rw [lg_entry_eq]
  generalize (lg_sl ([.ref h0, .int a1]) ++ List.replicate (2 - (lg_sl ([.ref h0, .int a1])).length) Slot.unset).toArray = ls at hl ⊢
  have hl : lv_has ls 2 [(0, .ref h0), (1, .int a1)] := hl
  unfold fX0_follows at h
  refine lv_aload_n hx hb dX0_follows_0 rfl (lv_at hl 0 rfl) ?_
  refine lv_iload_n hx hb dX0_follows_1 rfl (lv_at hl 1 rfl) ?_
  obtain ⟨r2, h1, h⟩ := fb_b1s h
  refine fb_callR (W.runV (As := [.int a1]) (rest := []) ⟨hx, hb, hml, hown, hts⟩ (metX0_isSet l D cI h0 qf qn qw ql B0 sz mi fg nt wt wl a1 r2 h1) (cwV 1 hts gX0_follows_X0_isSet rfl rfl rfl (by decide +kernel) ⟨Nat.le_of_ble_eq_true rfl, Nat.le_of_ble_eq_true rfl⟩) (fb_preVR (ci := 0) fb_sX0p hP hK hZ hS hAB rfl rfl _) rfl rfl hl.1 rfl (lv_room (Nat.le_of_ble_eq_true rfl)) dX0_follows_2 ⟨Nat.le_of_ble_eq_true rfl, Nat.le_of_ble_eq_true rfl⟩) ?_
  refine lv_if_eq (tgt := 22) hx hb dX0_follows_5 (by decide) (fun c3 => ?_) (fun c3 => ?_)
  · replace h := fb_it c3 h
    refine lv_iconst (v := 0) hx hb dX0_follows_22 (by decide) ?_
    cases h
    exact W.zret (ty := .boolean) hx hb hr rfl (fun t ht _ => ⟨rfl, ht⟩) (fun q hq => absurd hq List.not_mem_nil) dX0_follows_23
  · replace h := fb_ie c3 h
    refine lv_aload_n hx hb dX0_follows_8 rfl (lv_at hl 0 rfl) ?_
    refine lv_iload_n hx hb dX0_follows_9 rfl (lv_at hl 1 rfl) ?_
    refine lv_iconst (v := 1) hx hb dX0_follows_10 (by decide) ?_
    refine lv_isub hx hb dX0_follows_11 ?_
    obtain ⟨r6, h5, h⟩ := fb_b1s h
    refine fb_callR (W.runV (As := [.int (a1 - 1)]) (rest := []) ⟨hx, hb, hml, hown, hts⟩ (metX0_isSet l D cI h0 qf qn qw ql B0 sz mi fg nt wt wl (a1 - 1) r6 h5) (cwV 1 hts gX0_follows_X0_isSet rfl rfl rfl (by decide +kernel) ⟨Nat.le_of_ble_eq_true rfl, Nat.le_of_ble_eq_true rfl⟩) (fb_preVR (ci := 0) fb_sX0p hP hK hZ hS hAB rfl rfl _) rfl rfl hl.1 rfl (lv_room (Nat.le_of_ble_eq_true rfl)) dX0_follows_12 ⟨Nat.le_of_ble_eq_true rfl, Nat.le_of_ble_eq_true rfl⟩) ?_
    refine lv_if_eq (tgt := 22) hx hb dX0_follows_15 (by decide) (fun c7 => ?_) (fun c7 => ?_)
    · replace h := fb_it c7 h
      refine lv_iconst (v := 0) hx hb dX0_follows_22 (by decide) ?_
      cases h
      exact W.zret (ty := .boolean) hx hb hr rfl (fun t ht _ => ⟨rfl, ht⟩) (fun q hq => absurd hq List.not_mem_nil) dX0_follows_23
    · replace h := fb_ie c7 h
      refine lv_iconst (v := 1) hx hb dX0_follows_18 (by decide) ?_
      refine lv_goto (tgt := 23) hx hb dX0_follows_19 (by decide) ?_
      cases h
      exact W.zret (ty := .boolean) hx hb hr rfl (fun t ht _ => ⟨rfl, ht⟩) (fun q hq => absurd hq List.not_mem_nil) dX0_follows_23
end
