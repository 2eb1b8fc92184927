theorem dX0_init_0 : decode cX0_init 0 = .ok (.aload_n 0, 1) := by decide +kernel
theorem dX0_init_1 : decode cX0_init 1 = .ok (.invokespecial 1, 3) := by decide +kernel
theorem dX0_init_4 : decode cX0_init 4 = .ok (.aload_n 0, 1) := by decide +kernel
theorem dX0_init_5 : decode cX0_init 5 = .ok (.iconst 0, 1) := by decide +kernel
theorem dX0_init_6 : decode cX0_init 6 = .ok (.putfield 7, 3) := by decide +kernel
theorem dX0_init_9 : decode cX0_init 9 = .ok (.aload_n 0, 1) := by decide +kernel
theorem dX0_init_10 : decode cX0_init 10 = .ok (.iconst 0, 1) := by decide +kernel
theorem dX0_init_11 : decode cX0_init 11 = .ok (.putfield 13, 3) := by decide +kernel
theorem dX0_init_14 : decode cX0_init 14 = .ok (.aload_n 0, 1) := by decide +kernel
theorem dX0_init_15 : decode cX0_init 15 = .ok (.bipush 12, 2) := by decide +kernel
theorem dX0_init_17 : decode cX0_init 17 = .ok (.newarray .int, 2) := by decide +kernel
theorem dX0_init_19 : decode cX0_init 19 = .ok (.putfield 17, 3) := by decide +kernel
theorem dX0_init_22 : decode cX0_init 22 = .ok (.aload_n 0, 1) := by decide +kernel
theorem dX0_init_23 : decode cX0_init 23 = .ok (.bipush 48, 2) := by decide +kernel
theorem dX0_init_25 : decode cX0_init 25 = .ok (.newarray .int, 2) := by decide +kernel
theorem dX0_init_27 : decode cX0_init 27 = .ok (.putfield 21, 3) := by decide +kernel
theorem dX0_init_30 : decode cX0_init 30 = .ok (.aload_n 0, 1) := by decide +kernel
theorem dX0_init_31 : decode cX0_init 31 = .ok (.bipush 8, 2) := by decide +kernel
theorem dX0_init_33 : decode cX0_init 33 = .ok (.newarray .int, 2) := by decide +kernel
theorem dX0_init_35 : decode cX0_init 35 = .ok (.putfield 24, 3) := by decide +kernel
theorem dX0_init_38 : decode cX0_init 38 = .ok (.aload_n 0, 1) := by decide +kernel
theorem dX0_init_39 : decode cX0_init 39 = .ok (.bipush 96, 2) := by decide +kernel
theorem dX0_init_41 : decode cX0_init 41 = .ok (.newarray .int, 2) := by decide +kernel
theorem dX0_init_43 : decode cX0_init 43 = .ok (.putfield 27, 3) := by decide +kernel
theorem dX0_init_46 : decode cX0_init 46 = .ok (.iconst 0, 1) := by decide +kernel
theorem dX0_init_47 : decode cX0_init 47 = .ok (.istore_n 1, 1) := by decide +kernel
theorem dX0_init_48 : decode cX0_init 48 = .ok (.iload_n 1, 1) := by decide +kernel
theorem dX0_init_49 : decode cX0_init 49 = .ok (.bipush 8, 2) := by decide +kernel
theorem dX0_init_51 : decode cX0_init 51 = .ok (.if_icmp .ge 16, 3) := by decide +kernel
theorem dX0_init_54 : decode cX0_init 54 = .ok (.aload_n 0, 1) := by decide +kernel
theorem dX0_init_55 : decode cX0_init 55 = .ok (.getfield 24, 3) := by decide +kernel
theorem dX0_init_58 : decode cX0_init 58 = .ok (.iload_n 1, 1) := by decide +kernel
theorem dX0_init_59 : decode cX0_init 59 = .ok (.iconst 2, 1) := by decide +kernel
theorem dX0_init_60 : decode cX0_init 60 = .ok (.iastore, 1) := by decide +kernel
theorem dX0_init_61 : decode cX0_init 61 = .ok (.iinc 1 1, 3) := by decide +kernel
theorem dX0_init_64 : decode cX0_init 64 = .ok (.goto (-16), 3) := by decide +kernel
theorem dX0_init_67 : decode cX0_init 67 = .ok (.return_, 1) := by decide +kernel
set_option maxRecDepth 20000 in
theorem ggX0_chord_X0_isNoteOf : GoodIn wsX0_chord wsX0_isNoteOf := goodIn_r _ [11, 12, 13] (by decide +kernel) (by decide +kernel)
set_option maxRecDepth 20000 in
theorem gX0_chord_X0_isNoteOf : GoodIn wsX0_chord (va_wsS RX0 30 yX0_isNoteOf wsX0_isNoteOf) := goodIn_app (goodIn_of _ (by decide +kernel)) ggX0_chord_X0_isNoteOf
set_option maxRecDepth 20000 in
theorem ggX0_chord_X0_isFigure : GoodIn wsX0_chord wsX0_isFigure := goodIn_r _ [16, 17] (by decide +kernel) (by decide +kernel)
set_option maxRecDepth 20000 in
theorem gX0_chord_X0_isFigure : GoodIn wsX0_chord (va_wsS RX0 41 yX0_isFigure wsX0_isFigure) := goodIn_app (goodIn_of _ (by decide +kernel)) ggX0_chord_X0_isFigure
set_option maxRecDepth 20000 in
theorem ggX0_chord_X0_putNotes : GoodIn wsX0_chord wsX0_putNotes := goodIn_r _ [21, 7, 22, 23, 24, 25, 26, 27] (by decide +kernel) (by decide +kernel)
set_option maxRecDepth 20000 in
theorem gX0_chord_X0_putNotes : GoodIn wsX0_chord (wsV RX0 52 RX0 yX0_putNotes wsX0_putNotes) := goodIn_app (goodIn_of _ (by decide +kernel)) ggX0_chord_X0_putNotes
theorem dX0_chord_0 : decode cX0_chord 0 = .ok (.iconst 0, 1) := by decide +kernel
theorem dX0_chord_1 : decode cX0_chord 1 = .ok (.iload_n 1, 1) := by decide +kernel
theorem dX0_chord_2 : decode cX0_chord 2 = .ok (.invokestatic 30, 3) := by decide +kernel
theorem dX0_chord_5 : decode cX0_chord 5 = .ok (.ifCond .ne 13, 3) := by decide +kernel
theorem dX0_chord_8 : decode cX0_chord 8 = .ok (.new 34, 3) := by decide +kernel
theorem dX0_chord_11 : decode cX0_chord 11 = .ok (.dup, 1) := by decide +kernel
theorem dX0_chord_12 : decode cX0_chord 12 = .ok (.ldc 36, 2) := by decide +kernel
theorem dX0_chord_14 : decode cX0_chord 14 = .ok (.invokespecial 38, 3) := by decide +kernel
theorem dX0_chord_17 : decode cX0_chord 17 = .ok (.athrow, 1) := by decide +kernel
theorem dX0_chord_18 : decode cX0_chord 18 = .ok (.iload_n 2, 1) := by decide +kernel
theorem dX0_chord_19 : decode cX0_chord 19 = .ok (.invokestatic 41, 3) := by decide +kernel
theorem dX0_chord_22 : decode cX0_chord 22 = .ok (.ifCond .ne 13, 3) := by decide +kernel
theorem dX0_chord_25 : decode cX0_chord 25 = .ok (.new 34, 3) := by decide +kernel
theorem dX0_chord_28 : decode cX0_chord 28 = .ok (.dup, 1) := by decide +kernel
theorem dX0_chord_29 : decode cX0_chord 29 = .ok (.ldc 45, 2) := by decide +kernel
theorem dX0_chord_31 : decode cX0_chord 31 = .ok (.invokespecial 38, 3) := by decide +kernel
theorem dX0_chord_34 : decode cX0_chord 34 = .ok (.athrow, 1) := by decide +kernel
theorem dX0_chord_35 : decode cX0_chord 35 = .ok (.aload_n 0, 1) := by decide +kernel
theorem dX0_chord_36 : decode cX0_chord 36 = .ok (.getfield 7, 3) := by decide +kernel
theorem dX0_chord_39 : decode cX0_chord 39 = .ok (.bipush 12, 2) := by decide +kernel
theorem dX0_chord_41 : decode cX0_chord 41 = .ok (.if_icmp .lt 13, 3) := by decide +kernel
theorem dX0_chord_44 : decode cX0_chord 44 = .ok (.new 47, 3) := by decide +kernel
theorem dX0_chord_47 : decode cX0_chord 47 = .ok (.dup, 1) := by decide +kernel
theorem dX0_chord_48 : decode cX0_chord 48 = .ok (.ldc 49, 2) := by decide +kernel
theorem dX0_chord_50 : decode cX0_chord 50 = .ok (.invokespecial 51, 3) := by decide +kernel
theorem dX0_chord_53 : decode cX0_chord 53 = .ok (.athrow, 1) := by decide +kernel
theorem dX0_chord_54 : decode cX0_chord 54 = .ok (.aload_n 0, 1) := by decide +kernel
theorem dX0_chord_55 : decode cX0_chord 55 = .ok (.getfield 7, 3) := by decide +kernel
theorem dX0_chord_58 : decode cX0_chord 58 = .ok (.istore_n 3, 1) := by decide +kernel
theorem dX0_chord_59 : decode cX0_chord 59 = .ok (.aload_n 0, 1) := by decide +kernel
theorem dX0_chord_60 : decode cX0_chord 60 = .ok (.dup, 1) := by decide +kernel
theorem dX0_chord_61 : decode cX0_chord 61 = .ok (.getfield 7, 3) := by decide +kernel
theorem dX0_chord_64 : decode cX0_chord 64 = .ok (.iconst 1, 1) := by decide +kernel
theorem dX0_chord_65 : decode cX0_chord 65 = .ok (.iadd, 1) := by decide +kernel
theorem dX0_chord_66 : decode cX0_chord 66 = .ok (.putfield 7, 3) := by decide +kernel
theorem dX0_chord_69 : decode cX0_chord 69 = .ok (.aload_n 0, 1) := by decide +kernel
theorem dX0_chord_70 : decode cX0_chord 70 = .ok (.getfield 17, 3) := by decide +kernel
theorem dX0_chord_73 : decode cX0_chord 73 = .ok (.iload_n 3, 1) := by decide +kernel
theorem dX0_chord_74 : decode cX0_chord 74 = .ok (.iload_n 2, 1) := by decide +kernel
theorem dX0_chord_75 : decode cX0_chord 75 = .ok (.iastore, 1) := by decide +kernel
theorem dX0_chord_76 : decode cX0_chord 76 = .ok (.aload_n 0, 1) := by decide +kernel
theorem dX0_chord_77 : decode cX0_chord 77 = .ok (.getfield 21, 3) := by decide +kernel
theorem dX0_chord_80 : decode cX0_chord 80 = .ok (.iload_n 3, 1) := by decide +kernel
theorem dX0_chord_81 : decode cX0_chord 81 = .ok (.iconst 4, 1) := by decide +kernel
theorem dX0_chord_82 : decode cX0_chord 82 = .ok (.imul, 1) := by decide +kernel
theorem dX0_chord_83 : decode cX0_chord 83 = .ok (.iload_n 1, 1) := by decide +kernel
theorem dX0_chord_84 : decode cX0_chord 84 = .ok (.iastore, 1) := by decide +kernel
theorem dX0_chord_85 : decode cX0_chord 85 = .ok (.aload_n 0, 1) := by decide +kernel
theorem dX0_chord_86 : decode cX0_chord 86 = .ok (.iload_n 3, 1) := by decide +kernel
theorem dX0_chord_87 : decode cX0_chord 87 = .ok (.iconst (-1), 1) := by decide +kernel
theorem dX0_chord_88 : decode cX0_chord 88 = .ok (.iconst (-1), 1) := by decide +kernel
theorem dX0_chord_89 : decode cX0_chord 89 = .ok (.iconst (-1), 1) := by decide +kernel
theorem dX0_chord_90 : decode cX0_chord 90 = .ok (.invokevirtual 52, 3) := by decide +kernel
theorem dX0_chord_93 : decode cX0_chord 93 = .ok (.iload_n 3, 1) := by decide +kernel
theorem dX0_chord_94 : decode cX0_chord 94 = .ok (.ireturn, 1) := by decide +kernel
set_option maxRecDepth 20000 in
theorem ggX0_setBass_X0_isChord : GoodIn wsX0_setBass wsX0_isChord := goodIn_r _ [9, 10, 21, 22, 23, 24, 25, 26] (by decide +kernel) (by decide +kernel)
set_option maxRecDepth 20000 in
theorem gX0_setBass_X0_isChord : GoodIn wsX0_setBass (wsV RX0 56 RX0 yX0_isChord wsX0_isChord) := goodIn_app (goodIn_of _ (by decide +kernel)) ggX0_setBass_X0_isChord
set_option maxRecDepth 20000 in
theorem ggX0_setBass_X0_isNoteOf : GoodIn wsX0_setBass wsX0_isNoteOf := goodIn_r _ [13, 14, 15] (by decide +kernel) (by decide +kernel)
set_option maxRecDepth 20000 in
theorem gX0_setBass_X0_isNoteOf : GoodIn wsX0_setBass (va_wsS RX0 30 yX0_isNoteOf wsX0_isNoteOf) := goodIn_app (goodIn_of _ (by decide +kernel)) ggX0_setBass_X0_isNoteOf
set_option maxRecDepth 20000 in
theorem ggX0_setBass_X0_exchangeNote : GoodIn wsX0_setBass wsX0_exchangeNote := goodIn_r _ [19, 20, 21, 22, 23, 24, 25, 26] (by decide +kernel) (by decide +kernel)
set_option maxRecDepth 20000 in
theorem gX0_setBass_X0_exchangeNote : GoodIn wsX0_setBass (wsV RX0 64 RX0 yX0_exchangeNote wsX0_exchangeNote) := goodIn_app (goodIn_of _ (by decide +kernel)) ggX0_setBass_X0_exchangeNote
theorem dX0_setBass_0 : decode cX0_setBass 0 = .ok (.aload_n 0, 1) := by decide +kernel
theorem dX0_setBass_1 : decode cX0_setBass 1 = .ok (.iload_n 1, 1) := by decide +kernel
theorem dX0_setBass_2 : decode cX0_setBass 2 = .ok (.invokevirtual 56, 3) := by decide +kernel
theorem dX0_setBass_5 : decode cX0_setBass 5 = .ok (.ifCond .ne 13, 3) := by decide +kernel
theorem dX0_setBass_8 : decode cX0_setBass 8 = .ok (.new 59, 3) := by decide +kernel
theorem dX0_setBass_11 : decode cX0_setBass 11 = .ok (.dup, 1) := by decide +kernel
theorem dX0_setBass_12 : decode cX0_setBass 12 = .ok (.ldc 61, 2) := by decide +kernel
theorem dX0_setBass_14 : decode cX0_setBass 14 = .ok (.invokespecial 63, 3) := by decide +kernel
theorem dX0_setBass_17 : decode cX0_setBass 17 = .ok (.athrow, 1) := by decide +kernel
theorem dX0_setBass_18 : decode cX0_setBass 18 = .ok (.iconst 0, 1) := by decide +kernel
theorem dX0_setBass_19 : decode cX0_setBass 19 = .ok (.iload_n 2, 1) := by decide +kernel
theorem dX0_setBass_20 : decode cX0_setBass 20 = .ok (.invokestatic 30, 3) := by decide +kernel
theorem dX0_setBass_23 : decode cX0_setBass 23 = .ok (.ifCond .ne 13, 3) := by decide +kernel
theorem dX0_setBass_26 : decode cX0_setBass 26 = .ok (.new 34, 3) := by decide +kernel
theorem dX0_setBass_29 : decode cX0_setBass 29 = .ok (.dup, 1) := by decide +kernel
theorem dX0_setBass_30 : decode cX0_setBass 30 = .ok (.ldc 36, 2) := by decide +kernel
theorem dX0_setBass_32 : decode cX0_setBass 32 = .ok (.invokespecial 38, 3) := by decide +kernel
theorem dX0_setBass_35 : decode cX0_setBass 35 = .ok (.athrow, 1) := by decide +kernel
theorem dX0_setBass_36 : decode cX0_setBass 36 = .ok (.aload_n 0, 1) := by decide +kernel
theorem dX0_setBass_37 : decode cX0_setBass 37 = .ok (.iload_n 1, 1) := by decide +kernel
theorem dX0_setBass_38 : decode cX0_setBass 38 = .ok (.iconst 0, 1) := by decide +kernel
theorem dX0_setBass_39 : decode cX0_setBass 39 = .ok (.iload_n 2, 1) := by decide +kernel
theorem dX0_setBass_40 : decode cX0_setBass 40 = .ok (.invokevirtual 64, 3) := by decide +kernel
theorem dX0_setBass_43 : decode cX0_setBass 43 = .ok (.ireturn, 1) := by decide +kernel
set_option maxRecDepth 20000 in
theorem ggX0_setFigure_X0_isChord : GoodIn wsX0_setFigure wsX0_isChord := goodIn_r _ [10, 11, 16, 17, 18, 19, 20, 21] (by decide +kernel) (by decide +kernel)
set_option maxRecDepth 20000 in
theorem gX0_setFigure_X0_isChord : GoodIn wsX0_setFigure (wsV RX0 56 RX0 yX0_isChord wsX0_isChord) := goodIn_app (goodIn_of _ (by decide +kernel)) ggX0_setFigure_X0_isChord
set_option maxRecDepth 20000 in
theorem ggX0_setFigure_X0_isFigure : GoodIn wsX0_setFigure wsX0_isFigure := goodIn_r _ [14, 15] (by decide +kernel) (by decide +kernel)
set_option maxRecDepth 20000 in
theorem gX0_setFigure_X0_isFigure : GoodIn wsX0_setFigure (va_wsS RX0 41 yX0_isFigure wsX0_isFigure) := goodIn_app (goodIn_of _ (by decide +kernel)) ggX0_setFigure_X0_isFigure
theorem dX0_setFigure_0 : decode cX0_setFigure 0 = .ok (.aload_n 0, 1) := by decide +kernel
theorem dX0_setFigure_1 : decode cX0_setFigure 1 = .ok (.iload_n 1, 1) := by decide +kernel
theorem dX0_setFigure_2 : decode cX0_setFigure 2 = .ok (.invokevirtual 56, 3) := by decide +kernel
theorem dX0_setFigure_5 : decode cX0_setFigure 5 = .ok (.ifCond .ne 13, 3) := by decide +kernel
theorem dX0_setFigure_8 : decode cX0_setFigure 8 = .ok (.new 59, 3) := by decide +kernel
theorem dX0_setFigure_11 : decode cX0_setFigure 11 = .ok (.dup, 1) := by decide +kernel
theorem dX0_setFigure_12 : decode cX0_setFigure 12 = .ok (.ldc 61, 2) := by decide +kernel
theorem dX0_setFigure_14 : decode cX0_setFigure 14 = .ok (.invokespecial 63, 3) := by decide +kernel
theorem dX0_setFigure_17 : decode cX0_setFigure 17 = .ok (.athrow, 1) := by decide +kernel
theorem dX0_setFigure_18 : decode cX0_setFigure 18 = .ok (.iload_n 2, 1) := by decide +kernel
theorem dX0_setFigure_19 : decode cX0_setFigure 19 = .ok (.invokestatic 41, 3) := by decide +kernel
theorem dX0_setFigure_22 : decode cX0_setFigure 22 = .ok (.ifCond .ne 13, 3) := by decide +kernel
theorem dX0_setFigure_25 : decode cX0_setFigure 25 = .ok (.new 34, 3) := by decide +kernel
theorem dX0_setFigure_28 : decode cX0_setFigure 28 = .ok (.dup, 1) := by decide +kernel
theorem dX0_setFigure_29 : decode cX0_setFigure 29 = .ok (.ldc 45, 2) := by decide +kernel
theorem dX0_setFigure_31 : decode cX0_setFigure 31 = .ok (.invokespecial 38, 3) := by decide +kernel
theorem dX0_setFigure_34 : decode cX0_setFigure 34 = .ok (.athrow, 1) := by decide +kernel
theorem dX0_setFigure_35 : decode cX0_setFigure 35 = .ok (.aload_n 0, 1) := by decide +kernel
theorem dX0_setFigure_36 : decode cX0_setFigure 36 = .ok (.getfield 17, 3) := by decide +kernel
theorem dX0_setFigure_39 : decode cX0_setFigure 39 = .ok (.iload_n 1, 1) := by decide +kernel
theorem dX0_setFigure_40 : decode cX0_setFigure 40 = .ok (.iaload, 1) := by decide +kernel
theorem dX0_setFigure_41 : decode cX0_setFigure 41 = .ok (.istore_n 3, 1) := by decide +kernel
theorem dX0_setFigure_42 : decode cX0_setFigure 42 = .ok (.aload_n 0, 1) := by decide +kernel
theorem dX0_setFigure_43 : decode cX0_setFigure 43 = .ok (.getfield 17, 3) := by decide +kernel
theorem dX0_setFigure_46 : decode cX0_setFigure 46 = .ok (.iload_n 1, 1) := by decide +kernel
theorem dX0_setFigure_47 : decode cX0_setFigure 47 = .ok (.iload_n 2, 1) := by decide +kernel
theorem dX0_setFigure_48 : decode cX0_setFigure 48 = .ok (.iastore, 1) := by decide +kernel
theorem dX0_setFigure_49 : decode cX0_setFigure 49 = .ok (.iload_n 3, 1) := by decide +kernel
theorem dX0_setFigure_50 : decode cX0_setFigure 50 = .ok (.ireturn, 1) := by decide +kernel
set_option maxRecDepth 20000 in
theorem ggX0_put_X0_isChord : GoodIn wsX0_put wsX0_isChord := goodIn_r _ [9, 10, 24, 25, 26, 27, 28, 29] (by decide +kernel) (by decide +kernel)
set_option maxRecDepth 20000 in
theorem gX0_put_X0_isChord : GoodIn wsX0_put (wsV RX0 56 RX0 yX0_isChord wsX0_isChord) := goodIn_app (goodIn_of _ (by decide +kernel)) ggX0_put_X0_isChord
set_option maxRecDepth 20000 in
theorem ggX0_put_X0_isUpperVoice : GoodIn wsX0_put wsX0_isUpperVoice := goodIn_r _ [13] (by decide +kernel) (by decide +kernel)
set_option maxRecDepth 20000 in
theorem gX0_put_X0_isUpperVoice : GoodIn wsX0_put (va_wsS RX0 68 yX0_isUpperVoice wsX0_isUpperVoice) := goodIn_app (goodIn_of _ (by decide +kernel)) ggX0_put_X0_isUpperVoice
set_option maxRecDepth 20000 in
theorem ggX0_put_X0_isNoteOf : GoodIn wsX0_put wsX0_isNoteOf := goodIn_r _ [16, 17, 18] (by decide +kernel) (by decide +kernel)
set_option maxRecDepth 20000 in
theorem gX0_put_X0_isNoteOf : GoodIn wsX0_put (va_wsS RX0 30 yX0_isNoteOf wsX0_isNoteOf) := goodIn_app (goodIn_of _ (by decide +kernel)) ggX0_put_X0_isNoteOf
set_option maxRecDepth 20000 in
theorem ggX0_put_X0_exchangeNote : GoodIn wsX0_put wsX0_exchangeNote := goodIn_r _ [22, 23, 24, 25, 26, 27, 28, 29] (by decide +kernel) (by decide +kernel)
set_option maxRecDepth 20000 in
theorem gX0_put_X0_exchangeNote : GoodIn wsX0_put (wsV RX0 64 RX0 yX0_exchangeNote wsX0_exchangeNote) := goodIn_app (goodIn_of _ (by decide +kernel)) ggX0_put_X0_exchangeNote
theorem dX0_put_0 : decode cX0_put 0 = .ok (.aload_n 0, 1) := by decide +kernel
theorem dX0_put_1 : decode cX0_put 1 = .ok (.iload_n 1, 1) := by decide +kernel
theorem dX0_put_2 : decode cX0_put 2 = .ok (.invokevirtual 56, 3) := by decide +kernel
theorem dX0_put_5 : decode cX0_put 5 = .ok (.ifCond .eq 10, 3) := by decide +kernel
theorem dX0_put_8 : decode cX0_put 8 = .ok (.iload_n 2, 1) := by decide +kernel
theorem dX0_put_9 : decode cX0_put 9 = .ok (.invokestatic 68, 3) := by decide +kernel
theorem dX0_put_12 : decode cX0_put 12 = .ok (.ifCond .ne 13, 3) := by decide +kernel
theorem dX0_put_15 : decode cX0_put 15 = .ok (.new 59, 3) := by decide +kernel
theorem dX0_put_18 : decode cX0_put 18 = .ok (.dup, 1) := by decide +kernel
theorem dX0_put_19 : decode cX0_put 19 = .ok (.ldc 71, 2) := by decide +kernel
theorem dX0_put_21 : decode cX0_put 21 = .ok (.invokespecial 63, 3) := by decide +kernel
theorem dX0_put_24 : decode cX0_put 24 = .ok (.athrow, 1) := by decide +kernel
theorem dX0_put_25 : decode cX0_put 25 = .ok (.iload_n 3, 1) := by decide +kernel
theorem dX0_put_26 : decode cX0_put 26 = .ok (.iconst (-1), 1) := by decide +kernel
theorem dX0_put_27 : decode cX0_put 27 = .ok (.if_icmp .eq 21, 3) := by decide +kernel
theorem dX0_put_30 : decode cX0_put 30 = .ok (.iload_n 2, 1) := by decide +kernel
theorem dX0_put_31 : decode cX0_put 31 = .ok (.iload_n 3, 1) := by decide +kernel
theorem dX0_put_32 : decode cX0_put 32 = .ok (.invokestatic 30, 3) := by decide +kernel
theorem dX0_put_35 : decode cX0_put 35 = .ok (.ifCond .ne 13, 3) := by decide +kernel
theorem dX0_put_38 : decode cX0_put 38 = .ok (.new 34, 3) := by decide +kernel
theorem dX0_put_41 : decode cX0_put 41 = .ok (.dup, 1) := by decide +kernel
theorem dX0_put_42 : decode cX0_put 42 = .ok (.ldc 73, 2) := by decide +kernel
theorem dX0_put_44 : decode cX0_put 44 = .ok (.invokespecial 38, 3) := by decide +kernel
theorem dX0_put_47 : decode cX0_put 47 = .ok (.athrow, 1) := by decide +kernel
theorem dX0_put_48 : decode cX0_put 48 = .ok (.aload_n 0, 1) := by decide +kernel
theorem dX0_put_49 : decode cX0_put 49 = .ok (.iload_n 1, 1) := by decide +kernel
theorem dX0_put_50 : decode cX0_put 50 = .ok (.iload_n 2, 1) := by decide +kernel
theorem dX0_put_51 : decode cX0_put 51 = .ok (.iload_n 3, 1) := by decide +kernel
theorem dX0_put_52 : decode cX0_put 52 = .ok (.invokevirtual 64, 3) := by decide +kernel
theorem dX0_put_55 : decode cX0_put 55 = .ok (.ireturn, 1) := by decide +kernel
theorem dX0_setKey_0 : decode cX0_setKey 0 = .ok (.aload_n 0, 1) := by decide +kernel
theorem dX0_setKey_1 : decode cX0_setKey 1 = .ok (.getfield 13, 3) := by decide +kernel
theorem dX0_setKey_4 : decode cX0_setKey 4 = .ok (.istore_n 2, 1) := by decide +kernel
theorem dX0_setKey_5 : decode cX0_setKey 5 = .ok (.aload_n 0, 1) := by decide +kernel
theorem dX0_setKey_6 : decode cX0_setKey 6 = .ok (.iload_n 1, 1) := by decide +kernel
theorem dX0_setKey_7 : decode cX0_setKey 7 = .ok (.putfield 13, 3) := by decide +kernel
theorem dX0_setKey_10 : decode cX0_setKey 10 = .ok (.iload_n 2, 1) := by decide +kernel
theorem dX0_setKey_11 : decode cX0_setKey 11 = .ok (.ireturn, 1) := by decide +kernel
set_option maxRecDepth 20000 in
theorem ggX0_setWeight_X0_isFault : GoodIn wsX0_setWeight wsX0_isFault := goodIn_r _ [9] (by decide +kernel) (by decide +kernel)
set_option maxRecDepth 20000 in
theorem gX0_setWeight_X0_isFault : GoodIn wsX0_setWeight (va_wsS RX0 77 yX0_isFault wsX0_isFault) := goodIn_app (goodIn_of _ (by decide +kernel)) ggX0_setWeight_X0_isFault
theorem dX0_setWeight_0 : decode cX0_setWeight 0 = .ok (.iload_n 1, 1) := by decide +kernel
theorem dX0_setWeight_1 : decode cX0_setWeight 1 = .ok (.invokestatic 77, 3) := by decide +kernel
theorem dX0_setWeight_4 : decode cX0_setWeight 4 = .ok (.ifCond .ne 13, 3) := by decide +kernel
theorem dX0_setWeight_7 : decode cX0_setWeight 7 = .ok (.new 59, 3) := by decide +kernel
theorem dX0_setWeight_10 : decode cX0_setWeight 10 = .ok (.dup, 1) := by decide +kernel
theorem dX0_setWeight_11 : decode cX0_setWeight 11 = .ok (.ldc 80, 2) := by decide +kernel
theorem dX0_setWeight_13 : decode cX0_setWeight 13 = .ok (.invokespecial 63, 3) := by decide +kernel
theorem dX0_setWeight_16 : decode cX0_setWeight 16 = .ok (.athrow, 1) := by decide +kernel
theorem dX0_setWeight_17 : decode cX0_setWeight 17 = .ok (.iload_n 2, 1) := by decide +kernel
theorem dX0_setWeight_18 : decode cX0_setWeight 18 = .ok (.ifCond .lt 9, 3) := by decide +kernel
theorem dX0_setWeight_21 : decode cX0_setWeight 21 = .ok (.iload_n 2, 1) := by decide +kernel
theorem dX0_setWeight_22 : decode cX0_setWeight 22 = .ok (.bipush 9, 2) := by decide +kernel
theorem dX0_setWeight_24 : decode cX0_setWeight 24 = .ok (.if_icmp .le 13, 3) := by decide +kernel
theorem dX0_setWeight_27 : decode cX0_setWeight 27 = .ok (.new 34, 3) := by decide +kernel
theorem dX0_setWeight_30 : decode cX0_setWeight 30 = .ok (.dup, 1) := by decide +kernel
theorem dX0_setWeight_31 : decode cX0_setWeight 31 = .ok (.ldc 82, 2) := by decide +kernel
theorem dX0_setWeight_33 : decode cX0_setWeight 33 = .ok (.invokespecial 38, 3) := by decide +kernel
theorem dX0_setWeight_36 : decode cX0_setWeight 36 = .ok (.athrow, 1) := by decide +kernel
theorem dX0_setWeight_37 : decode cX0_setWeight 37 = .ok (.aload_n 0, 1) := by decide +kernel
theorem dX0_setWeight_38 : decode cX0_setWeight 38 = .ok (.getfield 24, 3) := by decide +kernel
theorem dX0_setWeight_41 : decode cX0_setWeight 41 = .ok (.iload_n 1, 1) := by decide +kernel
theorem dX0_setWeight_42 : decode cX0_setWeight 42 = .ok (.iaload, 1) := by decide +kernel
theorem dX0_setWeight_43 : decode cX0_setWeight 43 = .ok (.istore_n 3, 1) := by decide +kernel
theorem dX0_setWeight_44 : decode cX0_setWeight 44 = .ok (.aload_n 0, 1) := by decide +kernel
theorem dX0_setWeight_45 : decode cX0_setWeight 45 = .ok (.getfield 24, 3) := by decide +kernel
theorem dX0_setWeight_48 : decode cX0_setWeight 48 = .ok (.iload_n 1, 1) := by decide +kernel
theorem dX0_setWeight_49 : decode cX0_setWeight 49 = .ok (.iload_n 2, 1) := by decide +kernel
theorem dX0_setWeight_50 : decode cX0_setWeight 50 = .ok (.iastore, 1) := by decide +kernel
theorem dX0_setWeight_51 : decode cX0_setWeight 51 = .ok (.iload_n 3, 1) := by decide +kernel
theorem dX0_setWeight_52 : decode cX0_setWeight 52 = .ok (.ireturn, 1) := by decide +kernel
set_option maxRecDepth 20000 in
theorem ggX0_lead_X0_isChord : GoodIn wsX0_lead wsX0_isChord := goodIn_r _ [9, 10, 115, 116, 117, 118, 119, 120] (by decide +kernel) (by decide +kernel)
set_option maxRecDepth 20000 in
theorem gX0_lead_X0_isChord : GoodIn wsX0_lead (wsV RX0 56 RX0 yX0_isChord wsX0_isChord) := goodIn_app (goodIn_of _ (by decide +kernel)) ggX0_lead_X0_isChord
set_option maxRecDepth 20000 in
theorem ggX0_lead_X0_bestWay : GoodIn wsX0_lead wsX0_bestWay := goodIn_r _ [14, 15, 16, 17, 18, 8, 19, 20, 21, 22, 23, 24, 25, 26, 27, 28, 29, 30, 31, 32, 33, 34, 35, 36, 37, 38, 39, 40, 41, 42, 43, 44, 45, 46, 47, 48, 49, 50, 51, 52, 53, 54, 55, 56, 57, 58, 59, 60, 61, 62, 63, 64, 5, 6, 7, 9, 10, 65, 66, 67, 68, 69, 70, 71, 72, 73, 74, 75, 76, 77, 78, 79, 80, 81, 82, 83, 84, 85, 86, 87, 88, 89, 90, 91, 92, 93, 94, 95, 96, 97, 98, 99, 100, 101, 102, 103, 104, 105, 106, 107, 108, 109, 110, 111, 112, 113, 114, 115, 116, 117, 118, 119, 120] (by decide +kernel) (by decide +kernel)
set_option maxRecDepth 20000 in
theorem gX0_lead_X0_bestWay : GoodIn wsX0_lead (wsV RX0 84 RX0 yX0_bestWay wsX0_bestWay) := goodIn_app (goodIn_of _ (by decide +kernel)) ggX0_lead_X0_bestWay
set_option maxRecDepth 20000 in
theorem ggX0_lead_X0_putWay : GoodIn wsX0_lead wsX0_putWay := goodIn_r _ [51, 52, 53, 54, 8, 55, 20, 115, 116, 117, 118, 119, 120] (by decide +kernel) (by decide +kernel)
set_option maxRecDepth 20000 in
theorem gX0_lead_X0_putWay : GoodIn wsX0_lead (wsV RX0 90 RX0 yX0_putWay wsX0_putWay) := goodIn_app (goodIn_of _ (by decide +kernel)) ggX0_lead_X0_putWay
set_option maxRecDepth 20000 in
theorem ggX0_lead_X0_costOf : GoodIn wsX0_lead wsX0_costOf := goodIn_r _ [59, 60, 61, 62, 63, 8, 64, 5, 6, 7, 9, 10, 16, 17, 18, 19, 20, 65, 66, 67, 68, 44, 45, 46, 47, 35, 36, 37, 38, 39, 69, 70, 71, 72, 73, 74, 29, 75, 76, 77, 78, 79, 80, 81, 82, 83, 84, 85, 86, 87, 88, 89, 90, 91, 92, 93, 94, 95, 96, 97, 98, 99, 100, 101, 102, 103, 104, 105, 106, 107, 108, 109, 110, 111, 112, 113, 114, 115, 116, 117, 118, 119, 120] (by decide +kernel) (by decide +kernel)
set_option maxRecDepth 20000 in
theorem gX0_lead_X0_costOf : GoodIn wsX0_lead (wsV RX0 94 RX0 yX0_costOf wsX0_costOf) := goodIn_app (goodIn_of _ (by decide +kernel)) ggX0_lead_X0_costOf
theorem dX0_lead_0 : decode cX0_lead 0 = .ok (.aload_n 0, 1) := by decide +kernel
theorem dX0_lead_1 : decode cX0_lead 1 = .ok (.iload_n 1, 1) := by decide +kernel
theorem dX0_lead_2 : decode cX0_lead 2 = .ok (.invokevirtual 56, 3) := by decide +kernel
theorem dX0_lead_5 : decode cX0_lead 5 = .ok (.ifCond .ne 13, 3) := by decide +kernel
theorem dX0_lead_8 : decode cX0_lead 8 = .ok (.new 59, 3) := by decide +kernel
theorem dX0_lead_11 : decode cX0_lead 11 = .ok (.dup, 1) := by decide +kernel
theorem dX0_lead_12 : decode cX0_lead 12 = .ok (.ldc 61, 2) := by decide +kernel
theorem dX0_lead_14 : decode cX0_lead 14 = .ok (.invokespecial 63, 3) := by decide +kernel
theorem dX0_lead_17 : decode cX0_lead 17 = .ok (.athrow, 1) := by decide +kernel
theorem dX0_lead_18 : decode cX0_lead 18 = .ok (.aload_n 0, 1) := by decide +kernel
theorem dX0_lead_19 : decode cX0_lead 19 = .ok (.iload_n 1, 1) := by decide +kernel
theorem dX0_lead_20 : decode cX0_lead 20 = .ok (.invokevirtual 84, 3) := by decide +kernel
theorem dX0_lead_23 : decode cX0_lead 23 = .ok (.istore_n 2, 1) := by decide +kernel
theorem dX0_lead_24 : decode cX0_lead 24 = .ok (.iload_n 2, 1) := by decide +kernel
theorem dX0_lead_25 : decode cX0_lead 25 = .ok (.ifCond .ge 13, 3) := by decide +kernel
theorem dX0_lead_28 : decode cX0_lead 28 = .ok (.new 47, 3) := by decide +kernel
theorem dX0_lead_31 : decode cX0_lead 31 = .ok (.dup, 1) := by decide +kernel
theorem dX0_lead_32 : decode cX0_lead 32 = .ok (.ldc 88, 2) := by decide +kernel
theorem dX0_lead_34 : decode cX0_lead 34 = .ok (.invokespecial 51, 3) := by decide +kernel
theorem dX0_lead_37 : decode cX0_lead 37 = .ok (.athrow, 1) := by decide +kernel
theorem dX0_lead_38 : decode cX0_lead 38 = .ok (.aload_n 0, 1) := by decide +kernel
theorem dX0_lead_39 : decode cX0_lead 39 = .ok (.iload_n 1, 1) := by decide +kernel
theorem dX0_lead_40 : decode cX0_lead 40 = .ok (.iload_n 2, 1) := by decide +kernel
theorem dX0_lead_41 : decode cX0_lead 41 = .ok (.invokevirtual 90, 3) := by decide +kernel
theorem dX0_lead_44 : decode cX0_lead 44 = .ok (.aload_n 0, 1) := by decide +kernel
theorem dX0_lead_45 : decode cX0_lead 45 = .ok (.iload_n 1, 1) := by decide +kernel
theorem dX0_lead_46 : decode cX0_lead 46 = .ok (.invokevirtual 94, 3) := by decide +kernel
theorem dX0_lead_49 : decode cX0_lead 49 = .ok (.ireturn, 1) := by decide +kernel
set_option maxRecDepth 20000 in
theorem ggX0_note_X0_isChord : GoodIn wsX0_note wsX0_isChord := goodIn_r _ [7, 8, 14, 15, 16, 17, 18, 19] (by decide +kernel) (by decide +kernel)
set_option maxRecDepth 20000 in
theorem gX0_note_X0_isChord : GoodIn wsX0_note (wsV RX0 56 RX0 yX0_isChord wsX0_isChord) := goodIn_app (goodIn_of _ (by decide +kernel)) ggX0_note_X0_isChord
set_option maxRecDepth 20000 in
theorem ggX0_note_X0_noteAt : GoodIn wsX0_note wsX0_noteAt := goodIn_r _ [12, 13, 14, 15, 16, 17, 18, 19] (by decide +kernel) (by decide +kernel)
set_option maxRecDepth 20000 in
theorem gX0_note_X0_noteAt : GoodIn wsX0_note (wsV RX0 99 RX0 yX0_noteAt wsX0_noteAt) := goodIn_app (goodIn_of _ (by decide +kernel)) ggX0_note_X0_noteAt
theorem dX0_note_0 : decode cX0_note 0 = .ok (.aload_n 0, 1) := by decide +kernel
theorem dX0_note_1 : decode cX0_note 1 = .ok (.iload_n 1, 1) := by decide +kernel
theorem dX0_note_2 : decode cX0_note 2 = .ok (.invokevirtual 56, 3) := by decide +kernel
theorem dX0_note_5 : decode cX0_note 5 = .ok (.ifCond .eq 12, 3) := by decide +kernel
theorem dX0_note_8 : decode cX0_note 8 = .ok (.iload_n 2, 1) := by decide +kernel
theorem dX0_note_9 : decode cX0_note 9 = .ok (.ifCond .lt 8, 3) := by decide +kernel
theorem dX0_note_12 : decode cX0_note 12 = .ok (.iload_n 2, 1) := by decide +kernel
theorem dX0_note_13 : decode cX0_note 13 = .ok (.iconst 4, 1) := by decide +kernel
theorem dX0_note_14 : decode cX0_note 14 = .ok (.if_icmp .lt 13, 3) := by decide +kernel
theorem dX0_note_17 : decode cX0_note 17 = .ok (.new 59, 3) := by decide +kernel
theorem dX0_note_20 : decode cX0_note 20 = .ok (.dup, 1) := by decide +kernel
theorem dX0_note_21 : decode cX0_note 21 = .ok (.ldc 97, 2) := by decide +kernel
theorem dX0_note_23 : decode cX0_note 23 = .ok (.invokespecial 63, 3) := by decide +kernel
theorem dX0_note_26 : decode cX0_note 26 = .ok (.athrow, 1) := by decide +kernel
theorem dX0_note_27 : decode cX0_note 27 = .ok (.aload_n 0, 1) := by decide +kernel
theorem dX0_note_28 : decode cX0_note 28 = .ok (.iload_n 1, 1) := by decide +kernel
theorem dX0_note_29 : decode cX0_note 29 = .ok (.iload_n 2, 1) := by decide +kernel
theorem dX0_note_30 : decode cX0_note 30 = .ok (.invokevirtual 99, 3) := by decide +kernel
theorem dX0_note_33 : decode cX0_note 33 = .ok (.ireturn, 1) := by decide +kernel
set_option maxRecDepth 20000 in
theorem ggX0_told_X0_isChord : GoodIn wsX0_told wsX0_isChord := goodIn_r _ [7, 8, 87, 88, 89, 90, 91, 92] (by decide +kernel) (by decide +kernel)
set_option maxRecDepth 20000 in
theorem gX0_told_X0_isChord : GoodIn wsX0_told (wsV RX0 56 RX0 yX0_isChord wsX0_isChord) := goodIn_app (goodIn_of _ (by decide +kernel)) ggX0_told_X0_isChord
set_option maxRecDepth 20000 in
theorem ggX0_told_X0_tellOf : GoodIn wsX0_told wsX0_tellOf := goodIn_r _ [12, 13, 14, 15, 16, 6, 17, 18, 19, 20, 21, 22, 3, 4, 5, 7, 8, 23, 24, 25, 26, 27, 28, 29, 30, 31, 32, 33, 34, 35, 36, 37, 38, 39, 40, 41, 42, 43, 44, 45, 46, 47, 48, 49, 50, 51, 52, 53, 54, 55, 56, 57, 58, 59, 60, 61, 62, 63, 64, 65, 66, 67, 68, 69, 70, 71, 72, 73, 74, 75, 76, 77, 78, 79, 80, 81, 82, 83, 84, 85, 86, 87, 88, 89, 90, 91, 92] (by decide +kernel) (by decide +kernel)
set_option maxRecDepth 20000 in
theorem gX0_told_X0_tellOf : GoodIn wsX0_told (wsV RX0 105 RX0 yX0_tellOf wsX0_tellOf) := goodIn_app (goodIn_of _ (by decide +kernel)) ggX0_told_X0_tellOf
theorem dX0_told_0 : decode cX0_told 0 = .ok (.aload_n 0, 1) := by decide +kernel
theorem dX0_told_1 : decode cX0_told 1 = .ok (.iload_n 1, 1) := by decide +kernel
theorem dX0_told_2 : decode cX0_told 2 = .ok (.invokevirtual 56, 3) := by decide +kernel
theorem dX0_told_5 : decode cX0_told 5 = .ok (.ifCond .eq 13, 3) := by decide +kernel
theorem dX0_told_8 : decode cX0_told 8 = .ok (.iload_n 2, 1) := by decide +kernel
theorem dX0_told_9 : decode cX0_told 9 = .ok (.ifCond .lt 9, 3) := by decide +kernel
theorem dX0_told_12 : decode cX0_told 12 = .ok (.iload_n 2, 1) := by decide +kernel
theorem dX0_told_13 : decode cX0_told 13 = .ok (.bipush 6, 2) := by decide +kernel
theorem dX0_told_15 : decode cX0_told 15 = .ok (.if_icmp .lt 13, 3) := by decide +kernel
theorem dX0_told_18 : decode cX0_told 18 = .ok (.new 59, 3) := by decide +kernel
theorem dX0_told_21 : decode cX0_told 21 = .ok (.dup, 1) := by decide +kernel
theorem dX0_told_22 : decode cX0_told 22 = .ok (.ldc 103, 2) := by decide +kernel
theorem dX0_told_24 : decode cX0_told 24 = .ok (.invokespecial 63, 3) := by decide +kernel
theorem dX0_told_27 : decode cX0_told 27 = .ok (.athrow, 1) := by decide +kernel
theorem dX0_told_28 : decode cX0_told 28 = .ok (.aload_n 0, 1) := by decide +kernel
theorem dX0_told_29 : decode cX0_told 29 = .ok (.iload_n 1, 1) := by decide +kernel
theorem dX0_told_30 : decode cX0_told 30 = .ok (.iload_n 2, 1) := by decide +kernel
theorem dX0_told_31 : decode cX0_told 31 = .ok (.invokevirtual 105, 3) := by decide +kernel
theorem dX0_told_34 : decode cX0_told 34 = .ok (.ireturn, 1) := by decide +kernel
set_option maxRecDepth 20000 in
theorem ggX0_faults_X0_isChord : GoodIn wsX0_faults wsX0_isChord := goodIn_r _ [7, 8, 64, 65, 66, 67, 68, 69] (by decide +kernel) (by decide +kernel)
set_option maxRecDepth 20000 in
theorem gX0_faults_X0_isChord : GoodIn wsX0_faults (wsV RX0 56 RX0 yX0_isChord wsX0_isChord) := goodIn_app (goodIn_of _ (by decide +kernel)) ggX0_faults_X0_isChord
set_option maxRecDepth 20000 in
theorem ggX0_faults_X0_isFault : GoodIn wsX0_faults wsX0_isFault := goodIn_r _ [11] (by decide +kernel) (by decide +kernel)
set_option maxRecDepth 20000 in
theorem gX0_faults_X0_isFault : GoodIn wsX0_faults (va_wsS RX0 77 yX0_isFault wsX0_isFault) := goodIn_app (goodIn_of _ (by decide +kernel)) ggX0_faults_X0_isFault
set_option maxRecDepth 20000 in
theorem ggX0_faults_X0_faultsOf : GoodIn wsX0_faults wsX0_faultsOf := goodIn_r _ [15, 16, 17, 18, 6, 19, 20, 21, 22, 23, 3, 4, 5, 7, 8, 24, 25, 26, 27, 28, 29, 30, 31, 32, 33, 34, 35, 36, 37, 38, 39, 40, 41, 42, 43, 44, 45, 46, 47, 48, 49, 50, 51, 52, 53, 54, 55, 56, 57, 58, 59, 60, 61, 62, 63, 64, 65, 66, 67, 68, 69] (by decide +kernel) (by decide +kernel)
set_option maxRecDepth 20000 in
theorem gX0_faults_X0_faultsOf : GoodIn wsX0_faults (wsV RX0 110 RX0 yX0_faultsOf wsX0_faultsOf) := goodIn_app (goodIn_of _ (by decide +kernel)) ggX0_faults_X0_faultsOf
theorem dX0_faults_0 : decode cX0_faults 0 = .ok (.aload_n 0, 1) := by decide +kernel
theorem dX0_faults_1 : decode cX0_faults 1 = .ok (.iload_n 1, 1) := by decide +kernel
theorem dX0_faults_2 : decode cX0_faults 2 = .ok (.invokevirtual 56, 3) := by decide +kernel
theorem dX0_faults_5 : decode cX0_faults 5 = .ok (.ifCond .eq 10, 3) := by decide +kernel
theorem dX0_faults_8 : decode cX0_faults 8 = .ok (.iload_n 2, 1) := by decide +kernel
theorem dX0_faults_9 : decode cX0_faults 9 = .ok (.invokestatic 77, 3) := by decide +kernel
theorem dX0_faults_12 : decode cX0_faults 12 = .ok (.ifCond .ne 13, 3) := by decide +kernel
theorem dX0_faults_15 : decode cX0_faults 15 = .ok (.new 59, 3) := by decide +kernel
theorem dX0_faults_18 : decode cX0_faults 18 = .ok (.dup, 1) := by decide +kernel
theorem dX0_faults_19 : decode cX0_faults 19 = .ok (.ldc 108, 2) := by decide +kernel
theorem dX0_faults_21 : decode cX0_faults 21 = .ok (.invokespecial 63, 3) := by decide +kernel
theorem dX0_faults_24 : decode cX0_faults 24 = .ok (.athrow, 1) := by decide +kernel
theorem dX0_faults_25 : decode cX0_faults 25 = .ok (.aload_n 0, 1) := by decide +kernel
theorem dX0_faults_26 : decode cX0_faults 26 = .ok (.iload_n 1, 1) := by decide +kernel
theorem dX0_faults_27 : decode cX0_faults 27 = .ok (.iload_n 2, 1) := by decide +kernel
theorem dX0_faults_28 : decode cX0_faults 28 = .ok (.invokevirtual 110, 3) := by decide +kernel
theorem dX0_faults_31 : decode cX0_faults 31 = .ok (.ireturn, 1) := by decide +kernel
set_option maxRecDepth 20000 in
theorem ggX0_count_X0_countOf : GoodIn wsX0_count wsX0_countOf := goodIn_r _ [7, 8, 9, 10, 11, 12, 6, 13, 14, 15, 16, 17, 18, 19, 20, 21, 22, 23, 24, 25, 26, 27, 28, 29, 30, 31, 32, 33, 34, 35, 36, 37, 38, 39, 40, 41, 42, 43, 44, 45, 46, 47, 48, 49, 50, 51, 52, 53, 54, 55, 56, 57, 58, 59, 60, 61, 62, 63, 64, 65, 66, 67, 68, 69, 70, 71, 72, 73, 74, 75, 76, 77, 78, 79, 80, 81, 82, 83, 84, 85, 86, 87, 88, 89, 90, 91, 92, 93, 94, 95, 96] (by decide +kernel) (by decide +kernel)
set_option maxRecDepth 20000 in
theorem gX0_count_X0_countOf : GoodIn wsX0_count (wsV RX0 115 RX0 yX0_countOf wsX0_countOf) := goodIn_app (goodIn_of _ (by decide +kernel)) ggX0_count_X0_countOf
theorem dX0_count_0 : decode cX0_count 0 = .ok (.iload_n 1, 1) := by decide +kernel
theorem dX0_count_1 : decode cX0_count 1 = .ok (.ifCond .lt 9, 3) := by decide +kernel
theorem dX0_count_4 : decode cX0_count 4 = .ok (.iload_n 1, 1) := by decide +kernel
theorem dX0_count_5 : decode cX0_count 5 = .ok (.bipush 7, 2) := by decide +kernel
theorem dX0_count_7 : decode cX0_count 7 = .ok (.if_icmp .lt 13, 3) := by decide +kernel
theorem dX0_count_10 : decode cX0_count 10 = .ok (.new 59, 3) := by decide +kernel
theorem dX0_count_13 : decode cX0_count 13 = .ok (.dup, 1) := by decide +kernel
theorem dX0_count_14 : decode cX0_count 14 = .ok (.ldc 113, 2) := by decide +kernel
theorem dX0_count_16 : decode cX0_count 16 = .ok (.invokespecial 63, 3) := by decide +kernel
theorem dX0_count_19 : decode cX0_count 19 = .ok (.athrow, 1) := by decide +kernel
theorem dX0_count_20 : decode cX0_count 20 = .ok (.aload_n 0, 1) := by decide +kernel
theorem dX0_count_21 : decode cX0_count 21 = .ok (.iload_n 1, 1) := by decide +kernel
theorem dX0_count_22 : decode cX0_count 22 = .ok (.invokevirtual 115, 3) := by decide +kernel
theorem dX0_count_25 : decode cX0_count 25 = .ok (.ireturn, 1) := by decide +kernel
set_option maxRecDepth 20000 in
theorem ggX0_fits_X0_isChord : GoodIn wsX0_fits wsX0_isChord := goodIn_r _ [9, 10, 36, 37, 38, 39, 40, 41] (by decide +kernel) (by decide +kernel)
set_option maxRecDepth 20000 in
theorem gX0_fits_X0_isChord : GoodIn wsX0_fits (wsV RX0 56 RX0 yX0_isChord wsX0_isChord) := goodIn_app (goodIn_of _ (by decide +kernel)) ggX0_fits_X0_isChord
set_option maxRecDepth 20000 in
theorem ggX0_fits_X0_isUpperVoice : GoodIn wsX0_fits wsX0_isUpperVoice := goodIn_r _ [13] (by decide +kernel) (by decide +kernel)
set_option maxRecDepth 20000 in
theorem gX0_fits_X0_isUpperVoice : GoodIn wsX0_fits (va_wsS RX0 68 yX0_isUpperVoice wsX0_isUpperVoice) := goodIn_app (goodIn_of _ (by decide +kernel)) ggX0_fits_X0_isUpperVoice
set_option maxRecDepth 20000 in
theorem ggX0_fits_X0_isNote : GoodIn wsX0_fits wsX0_isNote := goodIn_r _ [16] (by decide +kernel) (by decide +kernel)
set_option maxRecDepth 20000 in
theorem gX0_fits_X0_isNote : GoodIn wsX0_fits (va_wsS RX0 118 yX0_isNote wsX0_isNote) := goodIn_app (goodIn_of _ (by decide +kernel)) ggX0_fits_X0_isNote
set_option maxRecDepth 20000 in
theorem ggX0_fits_X0_isNoteOf : GoodIn wsX0_fits wsX0_isNoteOf := goodIn_r _ [19, 20, 21] (by decide +kernel) (by decide +kernel)
set_option maxRecDepth 20000 in
theorem gX0_fits_X0_isNoteOf : GoodIn wsX0_fits (va_wsS RX0 30 yX0_isNoteOf wsX0_isNoteOf) := goodIn_app (goodIn_of _ (by decide +kernel)) ggX0_fits_X0_isNoteOf
set_option maxRecDepth 20000 in
theorem ggX0_fits_X0_belongs : GoodIn wsX0_fits wsX0_belongs := goodIn_r _ [25, 26, 27, 28, 29, 30, 8, 31, 32, 33, 34, 35, 36, 37, 38, 39, 40, 41] (by decide +kernel) (by decide +kernel)
set_option maxRecDepth 20000 in
theorem gX0_fits_X0_belongs : GoodIn wsX0_fits (wsV RX0 126 RX0 yX0_belongs wsX0_belongs) := goodIn_app (goodIn_of _ (by decide +kernel)) ggX0_fits_X0_belongs
theorem dX0_fits_0 : decode cX0_fits 0 = .ok (.aload_n 0, 1) := by decide +kernel
theorem dX0_fits_1 : decode cX0_fits 1 = .ok (.iload_n 1, 1) := by decide +kernel
theorem dX0_fits_2 : decode cX0_fits 2 = .ok (.invokevirtual 56, 3) := by decide +kernel
theorem dX0_fits_5 : decode cX0_fits 5 = .ok (.ifCond .eq 10, 3) := by decide +kernel
theorem dX0_fits_8 : decode cX0_fits 8 = .ok (.iload_n 2, 1) := by decide +kernel
theorem dX0_fits_9 : decode cX0_fits 9 = .ok (.invokestatic 68, 3) := by decide +kernel
theorem dX0_fits_12 : decode cX0_fits 12 = .ok (.ifCond .ne 13, 3) := by decide +kernel
theorem dX0_fits_15 : decode cX0_fits 15 = .ok (.new 59, 3) := by decide +kernel
theorem dX0_fits_18 : decode cX0_fits 18 = .ok (.dup, 1) := by decide +kernel
theorem dX0_fits_19 : decode cX0_fits 19 = .ok (.ldc 71, 2) := by decide +kernel
theorem dX0_fits_21 : decode cX0_fits 21 = .ok (.invokespecial 63, 3) := by decide +kernel
theorem dX0_fits_24 : decode cX0_fits 24 = .ok (.athrow, 1) := by decide +kernel
theorem dX0_fits_25 : decode cX0_fits 25 = .ok (.iload_n 3, 1) := by decide +kernel
theorem dX0_fits_26 : decode cX0_fits 26 = .ok (.invokestatic 118, 3) := by decide +kernel
theorem dX0_fits_29 : decode cX0_fits 29 = .ok (.ifCond .ne 13, 3) := by decide +kernel
theorem dX0_fits_32 : decode cX0_fits 32 = .ok (.new 34, 3) := by decide +kernel
theorem dX0_fits_35 : decode cX0_fits 35 = .ok (.dup, 1) := by decide +kernel
theorem dX0_fits_36 : decode cX0_fits 36 = .ok (.ldc 121, 2) := by decide +kernel
theorem dX0_fits_38 : decode cX0_fits 38 = .ok (.invokespecial 38, 3) := by decide +kernel
theorem dX0_fits_41 : decode cX0_fits 41 = .ok (.athrow, 1) := by decide +kernel
theorem dX0_fits_42 : decode cX0_fits 42 = .ok (.iload_n 2, 1) := by decide +kernel
theorem dX0_fits_43 : decode cX0_fits 43 = .ok (.iload_n 3, 1) := by decide +kernel
theorem dX0_fits_44 : decode cX0_fits 44 = .ok (.invokestatic 30, 3) := by decide +kernel
theorem dX0_fits_47 : decode cX0_fits 47 = .ok (.ifCond .eq 16, 3) := by decide +kernel
theorem dX0_fits_50 : decode cX0_fits 50 = .ok (.aload_n 0, 1) := by decide +kernel
theorem dX0_fits_51 : decode cX0_fits 51 = .ok (.iload_n 1, 1) := by decide +kernel
theorem dX0_fits_52 : decode cX0_fits 52 = .ok (.iload_n 3, 1) := by decide +kernel
theorem dX0_fits_53 : decode cX0_fits 53 = .ok (.invokevirtual 126, 3) := by decide +kernel
theorem dX0_fits_56 : decode cX0_fits 56 = .ok (.ifCond .eq 7, 3) := by decide +kernel
theorem dX0_fits_59 : decode cX0_fits 59 = .ok (.iconst 1, 1) := by decide +kernel
theorem dX0_fits_60 : decode cX0_fits 60 = .ok (.goto 4, 3) := by decide +kernel
theorem dX0_fits_63 : decode cX0_fits 63 = .ok (.iconst 0, 1) := by decide +kernel
theorem dX0_fits_64 : decode cX0_fits 64 = .ok (.ireturn, 1) := by decide +kernel
set_option maxRecDepth 20000 in
theorem ggX0_ways_X0_isChord : GoodIn wsX0_ways wsX0_isChord := goodIn_r _ [7, 8, 42, 43, 44, 45, 46, 47] (by decide +kernel) (by decide +kernel)
set_option maxRecDepth 20000 in
theorem gX0_ways_X0_isChord : GoodIn wsX0_ways (wsV RX0 56 RX0 yX0_isChord wsX0_isChord) := goodIn_app (goodIn_of _ (by decide +kernel)) ggX0_ways_X0_isChord
set_option maxRecDepth 20000 in
theorem ggX0_ways_X0_listWays : GoodIn wsX0_ways wsX0_listWays := goodIn_r _ [12, 13, 14, 15, 16, 17, 18, 19, 20, 21, 6, 22, 23, 24, 25, 26, 27, 28, 29, 30, 31, 32, 33, 34, 35, 36, 37, 38, 39, 40, 41, 42, 43, 44, 45, 46, 47] (by decide +kernel) (by decide +kernel)
set_option maxRecDepth 20000 in
theorem gX0_ways_X0_listWays : GoodIn wsX0_ways (wsV RX0 129 RX0 yX0_listWays wsX0_listWays) := goodIn_app (goodIn_of _ (by decide +kernel)) ggX0_ways_X0_listWays
theorem dX0_ways_0 : decode cX0_ways 0 = .ok (.aload_n 0, 1) := by decide +kernel
theorem dX0_ways_1 : decode cX0_ways 1 = .ok (.iload_n 1, 1) := by decide +kernel
theorem dX0_ways_2 : decode cX0_ways 2 = .ok (.invokevirtual 56, 3) := by decide +kernel
theorem dX0_ways_5 : decode cX0_ways 5 = .ok (.ifCond .ne 13, 3) := by decide +kernel
theorem dX0_ways_8 : decode cX0_ways 8 = .ok (.new 59, 3) := by decide +kernel
theorem dX0_ways_11 : decode cX0_ways 11 = .ok (.dup, 1) := by decide +kernel
theorem dX0_ways_12 : decode cX0_ways 12 = .ok (.ldc 61, 2) := by decide +kernel
theorem dX0_ways_14 : decode cX0_ways 14 = .ok (.invokespecial 63, 3) := by decide +kernel
theorem dX0_ways_17 : decode cX0_ways 17 = .ok (.athrow, 1) := by decide +kernel
theorem dX0_ways_18 : decode cX0_ways 18 = .ok (.aload_n 0, 1) := by decide +kernel
theorem dX0_ways_19 : decode cX0_ways 19 = .ok (.iload_n 1, 1) := by decide +kernel
theorem dX0_ways_20 : decode cX0_ways 20 = .ok (.invokevirtual 129, 3) := by decide +kernel
theorem dX0_ways_23 : decode cX0_ways 23 = .ok (.ireturn, 1) := by decide +kernel
set_option maxRecDepth 20000 in
theorem ggX0_would_X0_isChord : GoodIn wsX0_would wsX0_isChord := goodIn_r _ [9, 10, 105, 106, 107, 108, 109, 110] (by decide +kernel) (by decide +kernel)
set_option maxRecDepth 20000 in
theorem gX0_would_X0_isChord : GoodIn wsX0_would (wsV RX0 56 RX0 yX0_isChord wsX0_isChord) := goodIn_app (goodIn_of _ (by decide +kernel)) ggX0_would_X0_isChord
set_option maxRecDepth 20000 in
theorem ggX0_would_X0_isUpperVoice : GoodIn wsX0_would wsX0_isUpperVoice := goodIn_r _ [13] (by decide +kernel) (by decide +kernel)
set_option maxRecDepth 20000 in
theorem gX0_would_X0_isUpperVoice : GoodIn wsX0_would (va_wsS RX0 68 yX0_isUpperVoice wsX0_isUpperVoice) := goodIn_app (goodIn_of _ (by decide +kernel)) ggX0_would_X0_isUpperVoice
set_option maxRecDepth 20000 in
theorem ggX0_would_X0_isNoteOf : GoodIn wsX0_would wsX0_isNoteOf := goodIn_r _ [16, 17, 18] (by decide +kernel) (by decide +kernel)
set_option maxRecDepth 20000 in
theorem gX0_would_X0_isNoteOf : GoodIn wsX0_would (va_wsS RX0 30 yX0_isNoteOf wsX0_isNoteOf) := goodIn_app (goodIn_of _ (by decide +kernel)) ggX0_would_X0_isNoteOf
set_option maxRecDepth 20000 in
theorem ggX0_would_X0_exchangeNote : GoodIn wsX0_would wsX0_exchangeNote := goodIn_r _ [22, 23, 105, 106, 107, 108, 109, 110] (by decide +kernel) (by decide +kernel)
set_option maxRecDepth 20000 in
theorem gX0_would_X0_exchangeNote : GoodIn wsX0_would (wsV RX0 64 RX0 yX0_exchangeNote wsX0_exchangeNote) := goodIn_app (goodIn_of _ (by decide +kernel)) ggX0_would_X0_exchangeNote
set_option maxRecDepth 20000 in
theorem ggX0_would_X0_countOf : GoodIn wsX0_would wsX0_countOf := goodIn_r _ [27, 28, 10, 29, 30, 31, 8, 32, 5, 6, 7, 9, 33, 34, 35, 36, 23, 37, 38, 39, 40, 41, 42, 43, 44, 45, 46, 47, 48, 49, 50, 51, 52, 53, 54, 55, 56, 57, 58, 59, 60, 61, 62, 63, 64, 65, 66, 67, 68, 69, 70, 71, 72, 73, 74, 75, 76, 77, 78, 79, 80, 81, 82, 83, 84, 85, 86, 87, 88, 89, 90, 91, 92, 93, 94, 95, 96, 97, 98, 99, 100, 101, 102, 103, 104, 105, 106, 107, 108, 109, 110] (by decide +kernel) (by decide +kernel)
set_option maxRecDepth 20000 in
theorem gX0_would_X0_countOf : GoodIn wsX0_would (wsV RX0 115 RX0 yX0_countOf wsX0_countOf) := goodIn_app (goodIn_of _ (by decide +kernel)) ggX0_would_X0_countOf
theorem dX0_would_0 : decode cX0_would 0 = .ok (.aload_n 0, 1) := by decide +kernel
theorem dX0_would_1 : decode cX0_would 1 = .ok (.iload_n 1, 1) := by decide +kernel
theorem dX0_would_2 : decode cX0_would 2 = .ok (.invokevirtual 56, 3) := by decide +kernel
theorem dX0_would_5 : decode cX0_would 5 = .ok (.ifCond .eq 10, 3) := by decide +kernel
theorem dX0_would_8 : decode cX0_would 8 = .ok (.iload_n 2, 1) := by decide +kernel
theorem dX0_would_9 : decode cX0_would 9 = .ok (.invokestatic 68, 3) := by decide +kernel
theorem dX0_would_12 : decode cX0_would 12 = .ok (.ifCond .ne 13, 3) := by decide +kernel
theorem dX0_would_15 : decode cX0_would 15 = .ok (.new 59, 3) := by decide +kernel
theorem dX0_would_18 : decode cX0_would 18 = .ok (.dup, 1) := by decide +kernel
theorem dX0_would_19 : decode cX0_would 19 = .ok (.ldc 71, 2) := by decide +kernel
theorem dX0_would_21 : decode cX0_would 21 = .ok (.invokespecial 63, 3) := by decide +kernel
theorem dX0_would_24 : decode cX0_would 24 = .ok (.athrow, 1) := by decide +kernel
theorem dX0_would_25 : decode cX0_would 25 = .ok (.iload_n 3, 1) := by decide +kernel
theorem dX0_would_26 : decode cX0_would 26 = .ok (.iconst (-1), 1) := by decide +kernel
theorem dX0_would_27 : decode cX0_would 27 = .ok (.if_icmp .eq 21, 3) := by decide +kernel
theorem dX0_would_30 : decode cX0_would 30 = .ok (.iload_n 2, 1) := by decide +kernel
theorem dX0_would_31 : decode cX0_would 31 = .ok (.iload_n 3, 1) := by decide +kernel
theorem dX0_would_32 : decode cX0_would 32 = .ok (.invokestatic 30, 3) := by decide +kernel
theorem dX0_would_35 : decode cX0_would 35 = .ok (.ifCond .ne 13, 3) := by decide +kernel
theorem dX0_would_38 : decode cX0_would 38 = .ok (.new 34, 3) := by decide +kernel
theorem dX0_would_41 : decode cX0_would 41 = .ok (.dup, 1) := by decide +kernel
theorem dX0_would_42 : decode cX0_would 42 = .ok (.ldc 73, 2) := by decide +kernel
theorem dX0_would_44 : decode cX0_would 44 = .ok (.invokespecial 38, 3) := by decide +kernel
theorem dX0_would_47 : decode cX0_would 47 = .ok (.athrow, 1) := by decide +kernel
theorem dX0_would_48 : decode cX0_would 48 = .ok (.aload_n 0, 1) := by decide +kernel
theorem dX0_would_49 : decode cX0_would 49 = .ok (.iload_n 1, 1) := by decide +kernel
theorem dX0_would_50 : decode cX0_would 50 = .ok (.iload_n 2, 1) := by decide +kernel
theorem dX0_would_51 : decode cX0_would 51 = .ok (.iload_n 3, 1) := by decide +kernel
theorem dX0_would_52 : decode cX0_would 52 = .ok (.invokevirtual 64, 3) := by decide +kernel
theorem dX0_would_55 : decode cX0_would 55 = .ok (.istore 4, 2) := by decide +kernel
theorem dX0_would_57 : decode cX0_would 57 = .ok (.aload_n 0, 1) := by decide +kernel
theorem dX0_would_58 : decode cX0_would 58 = .ok (.iconst 5, 1) := by decide +kernel
theorem dX0_would_59 : decode cX0_would 59 = .ok (.invokevirtual 115, 3) := by decide +kernel
theorem dX0_would_62 : decode cX0_would 62 = .ok (.istore 5, 2) := by decide +kernel
theorem dX0_would_64 : decode cX0_would 64 = .ok (.aload_n 0, 1) := by decide +kernel
theorem dX0_would_65 : decode cX0_would 65 = .ok (.iload_n 1, 1) := by decide +kernel
theorem dX0_would_66 : decode cX0_would 66 = .ok (.iload_n 2, 1) := by decide +kernel
theorem dX0_would_67 : decode cX0_would 67 = .ok (.iload 4, 2) := by decide +kernel
theorem dX0_would_69 : decode cX0_would 69 = .ok (.invokevirtual 64, 3) := by decide +kernel
theorem dX0_would_72 : decode cX0_would 72 = .ok (.pop, 1) := by decide +kernel
theorem dX0_would_73 : decode cX0_would 73 = .ok (.iload 5, 2) := by decide +kernel
theorem dX0_would_75 : decode cX0_would 75 = .ok (.ireturn, 1) := by decide +kernel
set_option maxRecDepth 20000 in
theorem ggX0_best_X0_isChord : GoodIn wsX0_best wsX0_isChord := goodIn_r _ [7, 8, 113, 114, 115, 116, 117, 118] (by decide +kernel) (by decide +kernel)
set_option maxRecDepth 20000 in
theorem gX0_best_X0_isChord : GoodIn wsX0_best (wsV RX0 56 RX0 yX0_isChord wsX0_isChord) := goodIn_app (goodIn_of _ (by decide +kernel)) ggX0_best_X0_isChord
set_option maxRecDepth 20000 in
theorem ggX0_best_X0_bestWay : GoodIn wsX0_best wsX0_bestWay := goodIn_r _ [12, 13, 14, 15, 16, 6, 17, 18, 19, 20, 21, 22, 23, 24, 25, 26, 27, 28, 29, 30, 31, 32, 33, 34, 35, 36, 37, 38, 39, 40, 41, 42, 43, 44, 45, 46, 47, 48, 49, 50, 51, 52, 53, 54, 55, 56, 57, 58, 59, 60, 61, 62, 3, 4, 5, 7, 8, 63, 64, 65, 66, 67, 68, 69, 70, 71, 72, 73, 74, 75, 76, 77, 78, 79, 80, 81, 82, 83, 84, 85, 86, 87, 88, 89, 90, 91, 92, 93, 94, 95, 96, 97, 98, 99, 100, 101, 102, 103, 104, 105, 106, 107, 108, 109, 110, 111, 112, 113, 114, 115, 116, 117, 118] (by decide +kernel) (by decide +kernel)
set_option maxRecDepth 20000 in
theorem gX0_best_X0_bestWay : GoodIn wsX0_best (wsV RX0 84 RX0 yX0_bestWay wsX0_bestWay) := goodIn_app (goodIn_of _ (by decide +kernel)) ggX0_best_X0_bestWay
theorem dX0_best_0 : decode cX0_best 0 = .ok (.aload_n 0, 1) := by decide +kernel
theorem dX0_best_1 : decode cX0_best 1 = .ok (.iload_n 1, 1) := by decide +kernel
theorem dX0_best_2 : decode cX0_best 2 = .ok (.invokevirtual 56, 3) := by decide +kernel
theorem dX0_best_5 : decode cX0_best 5 = .ok (.ifCond .ne 13, 3) := by decide +kernel
theorem dX0_best_8 : decode cX0_best 8 = .ok (.new 59, 3) := by decide +kernel
theorem dX0_best_11 : decode cX0_best 11 = .ok (.dup, 1) := by decide +kernel
theorem dX0_best_12 : decode cX0_best 12 = .ok (.ldc 61, 2) := by decide +kernel
theorem dX0_best_14 : decode cX0_best 14 = .ok (.invokespecial 63, 3) := by decide +kernel
theorem dX0_best_17 : decode cX0_best 17 = .ok (.athrow, 1) := by decide +kernel
theorem dX0_best_18 : decode cX0_best 18 = .ok (.aload_n 0, 1) := by decide +kernel
theorem dX0_best_19 : decode cX0_best 19 = .ok (.iload_n 1, 1) := by decide +kernel
theorem dX0_best_20 : decode cX0_best 20 = .ok (.invokevirtual 84, 3) := by decide +kernel
theorem dX0_best_23 : decode cX0_best 23 = .ok (.ireturn, 1) := by decide +kernel
set_option maxRecDepth 20000 in
theorem ggX0_advise_X0_isChord : GoodIn wsX0_advise wsX0_isChord := goodIn_r _ [9, 10, 113, 114, 115, 116, 117, 118] (by decide +kernel) (by decide +kernel)
set_option maxRecDepth 20000 in
theorem gX0_advise_X0_isChord : GoodIn wsX0_advise (wsV RX0 56 RX0 yX0_isChord wsX0_isChord) := goodIn_app (goodIn_of _ (by decide +kernel)) ggX0_advise_X0_isChord
set_option maxRecDepth 20000 in
theorem ggX0_advise_X0_noteAt : GoodIn wsX0_advise wsX0_noteAt := goodIn_r _ [14, 15, 113, 114, 115, 116, 117, 118] (by decide +kernel) (by decide +kernel)
set_option maxRecDepth 20000 in
theorem gX0_advise_X0_noteAt : GoodIn wsX0_advise (wsV RX0 99 RX0 yX0_noteAt wsX0_noteAt) := goodIn_app (goodIn_of _ (by decide +kernel)) ggX0_advise_X0_noteAt
set_option maxRecDepth 20000 in
theorem ggX0_advise_X0_bestWay : GoodIn wsX0_advise wsX0_bestWay := goodIn_r _ [19, 20, 11, 12, 13, 8, 14, 15, 21, 22, 23, 24, 25, 26, 27, 28, 29, 30, 31, 32, 33, 34, 4, 3, 35, 36, 37, 38, 39, 40, 41, 42, 43, 44, 45, 46, 47, 48, 49, 50, 51, 52, 53, 54, 55, 56, 57, 58, 59, 60, 61, 62, 5, 6, 7, 9, 10, 63, 64, 65, 66, 67, 68, 69, 70, 71, 72, 73, 74, 75, 76, 77, 78, 79, 80, 81, 82, 83, 84, 85, 86, 87, 88, 89, 90, 91, 92, 93, 94, 95, 96, 97, 98, 99, 100, 101, 102, 103, 104, 105, 106, 107, 108, 109, 110, 111, 112, 113, 114, 115, 116, 117, 118] (by decide +kernel) (by decide +kernel)
set_option maxRecDepth 20000 in
theorem gX0_advise_X0_bestWay : GoodIn wsX0_advise (wsV RX0 84 RX0 yX0_bestWay wsX0_bestWay) := goodIn_app (goodIn_of _ (by decide +kernel)) ggX0_advise_X0_bestWay
set_option maxRecDepth 20000 in
theorem ggX0_advise_X0_putWay : GoodIn wsX0_advise wsX0_putWay := goodIn_r _ [49, 50, 51, 52, 8, 53, 15, 113, 114, 115, 116, 117, 118] (by decide +kernel) (by decide +kernel)
set_option maxRecDepth 20000 in
theorem gX0_advise_X0_putWay : GoodIn wsX0_advise (wsV RX0 90 RX0 yX0_putWay wsX0_putWay) := goodIn_app (goodIn_of _ (by decide +kernel)) ggX0_advise_X0_putWay
set_option maxRecDepth 20000 in
theorem ggX0_advise_X0_costOf : GoodIn wsX0_advise wsX0_costOf := goodIn_r _ [57, 58, 59, 60, 61, 8, 62, 5, 6, 7, 9, 10, 11, 12, 13, 14, 15, 63, 64, 65, 66, 42, 43, 44, 45, 4, 3, 35, 36, 37, 67, 68, 69, 70, 71, 72, 29, 73, 74, 75, 76, 77, 78, 79, 80, 81, 82, 83, 84, 85, 86, 87, 88, 89, 90, 91, 92, 93, 94, 95, 96, 97, 98, 99, 100, 101, 102, 103, 104, 105, 106, 107, 108, 109, 110, 111, 112, 113, 114, 115, 116, 117, 118] (by decide +kernel) (by decide +kernel)
set_option maxRecDepth 20000 in
theorem gX0_advise_X0_costOf : GoodIn wsX0_advise (wsV RX0 94 RX0 yX0_costOf wsX0_costOf) := goodIn_app (goodIn_of _ (by decide +kernel)) ggX0_advise_X0_costOf
set_option maxRecDepth 20000 in
theorem ggX0_advise_X0_putNotes : GoodIn wsX0_advise wsX0_putNotes := goodIn_r _ [53, 15, 113, 114, 115, 116, 117, 118] (by decide +kernel) (by decide +kernel)
set_option maxRecDepth 20000 in
theorem gX0_advise_X0_putNotes : GoodIn wsX0_advise (wsV RX0 52 RX0 yX0_putNotes wsX0_putNotes) := goodIn_app (goodIn_of _ (by decide +kernel)) ggX0_advise_X0_putNotes
theorem dX0_advise_0 : decode cX0_advise 0 = .ok (.aload_n 0, 1) := by decide +kernel
theorem dX0_advise_1 : decode cX0_advise 1 = .ok (.iload_n 1, 1) := by decide +kernel
theorem dX0_advise_2 : decode cX0_advise 2 = .ok (.invokevirtual 56, 3) := by decide +kernel
theorem dX0_advise_5 : decode cX0_advise 5 = .ok (.ifCond .ne 13, 3) := by decide +kernel
theorem dX0_advise_8 : decode cX0_advise 8 = .ok (.new 59, 3) := by decide +kernel
theorem dX0_advise_11 : decode cX0_advise 11 = .ok (.dup, 1) := by decide +kernel
theorem dX0_advise_12 : decode cX0_advise 12 = .ok (.ldc 61, 2) := by decide +kernel
theorem dX0_advise_14 : decode cX0_advise 14 = .ok (.invokespecial 63, 3) := by decide +kernel
theorem dX0_advise_17 : decode cX0_advise 17 = .ok (.athrow, 1) := by decide +kernel
theorem dX0_advise_18 : decode cX0_advise 18 = .ok (.aload_n 0, 1) := by decide +kernel
theorem dX0_advise_19 : decode cX0_advise 19 = .ok (.getfield 17, 3) := by decide +kernel
theorem dX0_advise_22 : decode cX0_advise 22 = .ok (.iload_n 1, 1) := by decide +kernel
theorem dX0_advise_23 : decode cX0_advise 23 = .ok (.iaload, 1) := by decide +kernel
theorem dX0_advise_24 : decode cX0_advise 24 = .ok (.istore_n 2, 1) := by decide +kernel
theorem dX0_advise_25 : decode cX0_advise 25 = .ok (.aload_n 0, 1) := by decide +kernel
theorem dX0_advise_26 : decode cX0_advise 26 = .ok (.iload_n 1, 1) := by decide +kernel
theorem dX0_advise_27 : decode cX0_advise 27 = .ok (.iconst 1, 1) := by decide +kernel
theorem dX0_advise_28 : decode cX0_advise 28 = .ok (.invokevirtual 99, 3) := by decide +kernel
theorem dX0_advise_31 : decode cX0_advise 31 = .ok (.istore_n 3, 1) := by decide +kernel
theorem dX0_advise_32 : decode cX0_advise 32 = .ok (.aload_n 0, 1) := by decide +kernel
theorem dX0_advise_33 : decode cX0_advise 33 = .ok (.iload_n 1, 1) := by decide +kernel
theorem dX0_advise_34 : decode cX0_advise 34 = .ok (.iconst 2, 1) := by decide +kernel
theorem dX0_advise_35 : decode cX0_advise 35 = .ok (.invokevirtual 99, 3) := by decide +kernel
theorem dX0_advise_38 : decode cX0_advise 38 = .ok (.istore 4, 2) := by decide +kernel
theorem dX0_advise_40 : decode cX0_advise 40 = .ok (.aload_n 0, 1) := by decide +kernel
theorem dX0_advise_41 : decode cX0_advise 41 = .ok (.iload_n 1, 1) := by decide +kernel
theorem dX0_advise_42 : decode cX0_advise 42 = .ok (.iconst 3, 1) := by decide +kernel
theorem dX0_advise_43 : decode cX0_advise 43 = .ok (.invokevirtual 99, 3) := by decide +kernel
theorem dX0_advise_46 : decode cX0_advise 46 = .ok (.istore 5, 2) := by decide +kernel
theorem dX0_advise_48 : decode cX0_advise 48 = .ok (.iconst (-1), 1) := by decide +kernel
theorem dX0_advise_49 : decode cX0_advise 49 = .ok (.istore 6, 2) := by decide +kernel
theorem dX0_advise_51 : decode cX0_advise 51 = .ok (.iconst 0, 1) := by decide +kernel
theorem dX0_advise_52 : decode cX0_advise 52 = .ok (.istore 7, 2) := by decide +kernel
theorem dX0_advise_54 : decode cX0_advise 54 = .ok (.iconst 0, 1) := by decide +kernel
theorem dX0_advise_55 : decode cX0_advise 55 = .ok (.istore 8, 2) := by decide +kernel
theorem dX0_advise_57 : decode cX0_advise 57 = .ok (.iload 8, 2) := by decide +kernel
theorem dX0_advise_59 : decode cX0_advise 59 = .ok (.getstatic 132, 3) := by decide +kernel
theorem dX0_advise_62 : decode cX0_advise 62 = .ok (.arraylength, 1) := by decide +kernel
theorem dX0_advise_63 : decode cX0_advise 63 = .ok (.if_icmp .ge 71, 3) := by decide +kernel
theorem dX0_advise_66 : decode cX0_advise 66 = .ok (.aload_n 0, 1) := by decide +kernel
theorem dX0_advise_67 : decode cX0_advise 67 = .ok (.getfield 17, 3) := by decide +kernel
theorem dX0_advise_70 : decode cX0_advise 70 = .ok (.iload_n 1, 1) := by decide +kernel
theorem dX0_advise_71 : decode cX0_advise 71 = .ok (.iload 8, 2) := by decide +kernel
theorem dX0_advise_73 : decode cX0_advise 73 = .ok (.iastore, 1) := by decide +kernel
theorem dX0_advise_74 : decode cX0_advise 74 = .ok (.aload_n 0, 1) := by decide +kernel
theorem dX0_advise_75 : decode cX0_advise 75 = .ok (.iload_n 1, 1) := by decide +kernel
theorem dX0_advise_76 : decode cX0_advise 76 = .ok (.invokevirtual 84, 3) := by decide +kernel
theorem dX0_advise_79 : decode cX0_advise 79 = .ok (.istore 9, 2) := by decide +kernel
theorem dX0_advise_81 : decode cX0_advise 81 = .ok (.iload 9, 2) := by decide +kernel
theorem dX0_advise_83 : decode cX0_advise 83 = .ok (.ifCond .lt 45, 3) := by decide +kernel
theorem dX0_advise_86 : decode cX0_advise 86 = .ok (.aload_n 0, 1) := by decide +kernel
theorem dX0_advise_87 : decode cX0_advise 87 = .ok (.iload_n 1, 1) := by decide +kernel
theorem dX0_advise_88 : decode cX0_advise 88 = .ok (.iload 9, 2) := by decide +kernel
theorem dX0_advise_90 : decode cX0_advise 90 = .ok (.invokevirtual 90, 3) := by decide +kernel
theorem dX0_advise_93 : decode cX0_advise 93 = .ok (.aload_n 0, 1) := by decide +kernel
theorem dX0_advise_94 : decode cX0_advise 94 = .ok (.iload_n 1, 1) := by decide +kernel
theorem dX0_advise_95 : decode cX0_advise 95 = .ok (.invokevirtual 94, 3) := by decide +kernel
theorem dX0_advise_98 : decode cX0_advise 98 = .ok (.aload_n 0, 1) := by decide +kernel
theorem dX0_advise_99 : decode cX0_advise 99 = .ok (.iload_n 1, 1) := by decide +kernel
theorem dX0_advise_100 : decode cX0_advise 100 = .ok (.iconst 1, 1) := by decide +kernel
theorem dX0_advise_101 : decode cX0_advise 101 = .ok (.iadd, 1) := by decide +kernel
theorem dX0_advise_102 : decode cX0_advise 102 = .ok (.invokevirtual 94, 3) := by decide +kernel
theorem dX0_advise_105 : decode cX0_advise 105 = .ok (.iadd, 1) := by decide +kernel
theorem dX0_advise_106 : decode cX0_advise 106 = .ok (.istore 10, 2) := by decide +kernel
theorem dX0_advise_108 : decode cX0_advise 108 = .ok (.iload 6, 2) := by decide +kernel
theorem dX0_advise_110 : decode cX0_advise 110 = .ok (.ifCond .lt 10, 3) := by decide +kernel
theorem dX0_advise_113 : decode cX0_advise 113 = .ok (.iload 10, 2) := by decide +kernel
theorem dX0_advise_115 : decode cX0_advise 115 = .ok (.iload 7, 2) := by decide +kernel
theorem dX0_advise_117 : decode cX0_advise 117 = .ok (.if_icmp .ge 11, 3) := by decide +kernel
theorem dX0_advise_120 : decode cX0_advise 120 = .ok (.iload 8, 2) := by decide +kernel
theorem dX0_advise_122 : decode cX0_advise 122 = .ok (.istore 6, 2) := by decide +kernel
theorem dX0_advise_124 : decode cX0_advise 124 = .ok (.iload 10, 2) := by decide +kernel
theorem dX0_advise_126 : decode cX0_advise 126 = .ok (.istore 7, 2) := by decide +kernel
theorem dX0_advise_128 : decode cX0_advise 128 = .ok (.iinc 8 1, 3) := by decide +kernel
theorem dX0_advise_131 : decode cX0_advise 131 = .ok (.goto (-74), 3) := by decide +kernel
theorem dX0_advise_134 : decode cX0_advise 134 = .ok (.aload_n 0, 1) := by decide +kernel
theorem dX0_advise_135 : decode cX0_advise 135 = .ok (.getfield 17, 3) := by decide +kernel
theorem dX0_advise_138 : decode cX0_advise 138 = .ok (.iload_n 1, 1) := by decide +kernel
theorem dX0_advise_139 : decode cX0_advise 139 = .ok (.iload_n 2, 1) := by decide +kernel
theorem dX0_advise_140 : decode cX0_advise 140 = .ok (.iastore, 1) := by decide +kernel
theorem dX0_advise_141 : decode cX0_advise 141 = .ok (.aload_n 0, 1) := by decide +kernel
theorem dX0_advise_142 : decode cX0_advise 142 = .ok (.iload_n 1, 1) := by decide +kernel
theorem dX0_advise_143 : decode cX0_advise 143 = .ok (.iload_n 3, 1) := by decide +kernel
theorem dX0_advise_144 : decode cX0_advise 144 = .ok (.iload 4, 2) := by decide +kernel
theorem dX0_advise_146 : decode cX0_advise 146 = .ok (.iload 5, 2) := by decide +kernel
theorem dX0_advise_148 : decode cX0_advise 148 = .ok (.invokevirtual 52, 3) := by decide +kernel
theorem dX0_advise_151 : decode cX0_advise 151 = .ok (.iload 6, 2) := by decide +kernel
theorem dX0_advise_153 : decode cX0_advise 153 = .ok (.ireturn, 1) := by decide +kernel
set_option maxRecDepth 20000 in
theorem ggX0_mean_X0_countOf : GoodIn wsX0_mean wsX0_countOf := goodIn_r _ [5, 6, 7, 8, 9, 10, 4, 11, 12, 13, 14, 15, 16, 17, 18, 19, 20, 21, 22, 23, 24, 25, 26, 27, 28, 29, 30, 31, 32, 33, 34, 35, 36, 37, 38, 39, 40, 41, 42, 43, 44, 45, 46, 47, 48, 49, 50, 51, 52, 53, 54, 55, 56, 57, 58, 59, 60, 61, 62, 63, 64, 65, 66, 67, 68, 69, 70, 71, 72, 73, 74, 75, 76, 77, 78, 79, 80, 81, 82, 83, 84, 85, 86, 87, 88, 89, 90, 91, 92, 93, 94] (by decide +kernel) (by decide +kernel)
set_option maxRecDepth 20000 in
theorem gX0_mean_X0_countOf : GoodIn wsX0_mean (wsV RX0 115 RX0 yX0_countOf wsX0_countOf) := goodIn_app (goodIn_of _ (by decide +kernel)) ggX0_mean_X0_countOf
theorem dX0_mean_0 : decode cX0_mean 0 = .ok (.aload_n 0, 1) := by decide +kernel
theorem dX0_mean_1 : decode cX0_mean 1 = .ok (.iconst 1, 1) := by decide +kernel
theorem dX0_mean_2 : decode cX0_mean 2 = .ok (.invokevirtual 115, 3) := by decide +kernel
theorem dX0_mean_5 : decode cX0_mean 5 = .ok (.istore_n 1, 1) := by decide +kernel
theorem dX0_mean_6 : decode cX0_mean 6 = .ok (.iload_n 1, 1) := by decide +kernel
theorem dX0_mean_7 : decode cX0_mean 7 = .ok (.ifCond .ne 7, 3) := by decide +kernel
theorem dX0_mean_10 : decode cX0_mean 10 = .ok (.dconst 0, 1) := by decide +kernel
theorem dX0_mean_11 : decode cX0_mean 11 = .ok (.goto 12, 3) := by decide +kernel
theorem dX0_mean_14 : decode cX0_mean 14 = .ok (.aload_n 0, 1) := by decide +kernel
theorem dX0_mean_15 : decode cX0_mean 15 = .ok (.iconst 5, 1) := by decide +kernel
theorem dX0_mean_16 : decode cX0_mean 16 = .ok (.invokevirtual 115, 3) := by decide +kernel
theorem dX0_mean_19 : decode cX0_mean 19 = .ok (.i2d, 1) := by decide +kernel
theorem dX0_mean_20 : decode cX0_mean 20 = .ok (.iload_n 1, 1) := by decide +kernel
theorem dX0_mean_21 : decode cX0_mean 21 = .ok (.i2d, 1) := by decide +kernel
theorem dX0_mean_22 : decode cX0_mean 22 = .ok (.ddiv, 1) := by decide +kernel
theorem dX0_mean_23 : decode cX0_mean 23 = .ok (.dreturn, 1) := by decide +kernel
set_option maxRecDepth 20000 in
theorem ggX0_digest_X0_countOf : GoodIn wsX0_digest wsX0_countOf := goodIn_r _ [9, 10, 4, 11, 12, 13, 8, 14, 15, 16, 17, 18, 19, 20, 21, 22, 23, 24, 25, 26, 27, 28, 29, 30, 31, 32, 33, 34, 35, 36, 37, 38, 39, 40, 41, 42, 43, 44, 45, 46, 47, 48, 49, 50, 51, 52, 53, 54, 55, 56, 57, 58, 59, 60, 61, 62, 63, 64, 65, 66, 67, 68, 69, 70, 71, 72, 73, 74, 75, 76, 77, 78, 79, 80, 81, 82, 83, 84, 85, 86, 87, 88, 89, 90, 3, 113, 114, 115, 116, 117, 118] (by decide +kernel) (by decide +kernel)
set_option maxRecDepth 20000 in
theorem gX0_digest_X0_countOf : GoodIn wsX0_digest (wsV RX0 115 RX0 yX0_countOf wsX0_countOf) := goodIn_app (goodIn_of _ (by decide +kernel)) ggX0_digest_X0_countOf
set_option maxRecDepth 20000 in
theorem ggX0_digest_X0_noteAt : GoodIn wsX0_digest wsX0_noteAt := goodIn_r _ [22, 23, 113, 114, 115, 116, 117, 118] (by decide +kernel) (by decide +kernel)
set_option maxRecDepth 20000 in
theorem gX0_digest_X0_noteAt : GoodIn wsX0_digest (wsV RX0 99 RX0 yX0_noteAt wsX0_noteAt) := goodIn_app (goodIn_of _ (by decide +kernel)) ggX0_digest_X0_noteAt
set_option maxRecDepth 20000 in
theorem ggX0_digest_X0_tellOf : GoodIn wsX0_digest wsX0_tellOf := goodIn_r _ [94, 33, 19, 20, 21, 8, 22, 23, 11, 12, 13, 14, 15, 16, 17, 18, 4, 24, 25, 26, 27, 28, 29, 30, 31, 32, 34, 35, 36, 37, 38, 39, 40, 41, 42, 43, 44, 45, 46, 47, 48, 87, 88, 89, 90, 3, 53, 54, 55, 56, 57, 58, 59, 60, 61, 62, 63, 64, 65, 66, 67, 68, 69, 70, 71, 72, 10, 73, 74, 75, 76, 77, 78, 79, 80, 81, 82, 83, 84, 85, 86, 113, 114, 115, 116, 117, 118] (by decide +kernel) (by decide +kernel)
set_option maxRecDepth 20000 in
theorem gX0_digest_X0_tellOf : GoodIn wsX0_digest (wsV RX0 105 RX0 yX0_tellOf wsX0_tellOf) := goodIn_app (goodIn_of _ (by decide +kernel)) ggX0_digest_X0_tellOf
set_option maxRecDepth 20000 in
theorem ggX0_digest_X0_faultsOf : GoodIn wsX0_digest wsX0_faultsOf := goodIn_r _ [56, 45, 46, 47, 8, 48, 11, 12, 13, 14, 15, 16, 17, 18, 4, 19, 20, 21, 22, 23, 57, 58, 59, 60, 61, 62, 63, 64, 65, 66, 67, 68, 69, 70, 71, 72, 10, 73, 74, 75, 76, 77, 78, 79, 80, 81, 82, 83, 84, 85, 86, 33, 34, 35, 36, 113, 114, 115, 116, 117, 118] (by decide +kernel) (by decide +kernel)
set_option maxRecDepth 20000 in
theorem gX0_digest_X0_faultsOf : GoodIn wsX0_digest (wsV RX0 110 RX0 yX0_faultsOf wsX0_faultsOf) := goodIn_app (goodIn_of _ (by decide +kernel)) ggX0_digest_X0_faultsOf
set_option maxRecDepth 20000 in
theorem ggX0_digest_X0_listWays : GoodIn wsX0_digest wsX0_listWays := goodIn_r _ [98, 99, 100, 101, 102, 43, 103, 104, 105, 106, 8, 107, 32, 33, 19, 20, 21, 22, 23, 34, 35, 36, 108, 109, 110, 111, 112, 28, 29, 30, 31, 113, 114, 115, 116, 117, 118] (by decide +kernel) (by decide +kernel)
set_option maxRecDepth 20000 in
theorem gX0_digest_X0_listWays : GoodIn wsX0_digest (wsV RX0 129 RX0 yX0_listWays wsX0_listWays) := goodIn_app (goodIn_of _ (by decide +kernel)) ggX0_digest_X0_listWays
theorem dX0_digest_0 : decode cX0_digest 0 = .ok (.ldc2_w 135, 3) := by decide +kernel
theorem dX0_digest_3 : decode cX0_digest 3 = .ok (.lstore_n 1, 1) := by decide +kernel
theorem dX0_digest_4 : decode cX0_digest 4 = .ok (.iconst 0, 1) := by decide +kernel
theorem dX0_digest_5 : decode cX0_digest 5 = .ok (.istore_n 3, 1) := by decide +kernel
theorem dX0_digest_6 : decode cX0_digest 6 = .ok (.iload_n 3, 1) := by decide +kernel
theorem dX0_digest_7 : decode cX0_digest 7 = .ok (.bipush 7, 2) := by decide +kernel
theorem dX0_digest_9 : decode cX0_digest 9 = .ok (.if_icmp .ge 22, 3) := by decide +kernel
theorem dX0_digest_12 : decode cX0_digest 12 = .ok (.lload_n 1, 1) := by decide +kernel
theorem dX0_digest_13 : decode cX0_digest 13 = .ok (.ldc2_w 137, 3) := by decide +kernel
theorem dX0_digest_16 : decode cX0_digest 16 = .ok (.lmul, 1) := by decide +kernel
theorem dX0_digest_17 : decode cX0_digest 17 = .ok (.aload_n 0, 1) := by decide +kernel
theorem dX0_digest_18 : decode cX0_digest 18 = .ok (.iload_n 3, 1) := by decide +kernel
theorem dX0_digest_19 : decode cX0_digest 19 = .ok (.invokevirtual 115, 3) := by decide +kernel
theorem dX0_digest_22 : decode cX0_digest 22 = .ok (.i2l, 1) := by decide +kernel
theorem dX0_digest_23 : decode cX0_digest 23 = .ok (.ladd, 1) := by decide +kernel
theorem dX0_digest_24 : decode cX0_digest 24 = .ok (.lstore_n 1, 1) := by decide +kernel
theorem dX0_digest_25 : decode cX0_digest 25 = .ok (.iinc 3 1, 3) := by decide +kernel
theorem dX0_digest_28 : decode cX0_digest 28 = .ok (.goto (-22), 3) := by decide +kernel
theorem dX0_digest_31 : decode cX0_digest 31 = .ok (.iconst 0, 1) := by decide +kernel
theorem dX0_digest_32 : decode cX0_digest 32 = .ok (.istore_n 3, 1) := by decide +kernel
theorem dX0_digest_33 : decode cX0_digest 33 = .ok (.iload_n 3, 1) := by decide +kernel
theorem dX0_digest_34 : decode cX0_digest 34 = .ok (.bipush 8, 2) := by decide +kernel
theorem dX0_digest_36 : decode cX0_digest 36 = .ok (.if_icmp .ge 23, 3) := by decide +kernel
theorem dX0_digest_39 : decode cX0_digest 39 = .ok (.lload_n 1, 1) := by decide +kernel
theorem dX0_digest_40 : decode cX0_digest 40 = .ok (.ldc2_w 137, 3) := by decide +kernel
theorem dX0_digest_43 : decode cX0_digest 43 = .ok (.lmul, 1) := by decide +kernel
theorem dX0_digest_44 : decode cX0_digest 44 = .ok (.aload_n 0, 1) := by decide +kernel
theorem dX0_digest_45 : decode cX0_digest 45 = .ok (.getfield 24, 3) := by decide +kernel
theorem dX0_digest_48 : decode cX0_digest 48 = .ok (.iload_n 3, 1) := by decide +kernel
theorem dX0_digest_49 : decode cX0_digest 49 = .ok (.iaload, 1) := by decide +kernel
theorem dX0_digest_50 : decode cX0_digest 50 = .ok (.i2l, 1) := by decide +kernel
theorem dX0_digest_51 : decode cX0_digest 51 = .ok (.ladd, 1) := by decide +kernel
theorem dX0_digest_52 : decode cX0_digest 52 = .ok (.lstore_n 1, 1) := by decide +kernel
theorem dX0_digest_53 : decode cX0_digest 53 = .ok (.iinc 3 1, 3) := by decide +kernel
theorem dX0_digest_56 : decode cX0_digest 56 = .ok (.goto (-23), 3) := by decide +kernel
theorem dX0_digest_59 : decode cX0_digest 59 = .ok (.iconst 0, 1) := by decide +kernel
theorem dX0_digest_60 : decode cX0_digest 60 = .ok (.istore_n 3, 1) := by decide +kernel
theorem dX0_digest_61 : decode cX0_digest 61 = .ok (.iload_n 3, 1) := by decide +kernel
theorem dX0_digest_62 : decode cX0_digest 62 = .ok (.aload_n 0, 1) := by decide +kernel
theorem dX0_digest_63 : decode cX0_digest 63 = .ok (.getfield 7, 3) := by decide +kernel
theorem dX0_digest_66 : decode cX0_digest 66 = .ok (.if_icmp .ge 114, 3) := by decide +kernel
theorem dX0_digest_69 : decode cX0_digest 69 = .ok (.iconst 0, 1) := by decide +kernel
theorem dX0_digest_70 : decode cX0_digest 70 = .ok (.istore 4, 2) := by decide +kernel
theorem dX0_digest_72 : decode cX0_digest 72 = .ok (.iload 4, 2) := by decide +kernel
theorem dX0_digest_74 : decode cX0_digest 74 = .ok (.iconst 4, 1) := by decide +kernel
theorem dX0_digest_75 : decode cX0_digest 75 = .ok (.if_icmp .ge 24, 3) := by decide +kernel
theorem dX0_digest_78 : decode cX0_digest 78 = .ok (.lload_n 1, 1) := by decide +kernel
theorem dX0_digest_79 : decode cX0_digest 79 = .ok (.ldc2_w 137, 3) := by decide +kernel
theorem dX0_digest_82 : decode cX0_digest 82 = .ok (.lmul, 1) := by decide +kernel
theorem dX0_digest_83 : decode cX0_digest 83 = .ok (.aload_n 0, 1) := by decide +kernel
theorem dX0_digest_84 : decode cX0_digest 84 = .ok (.iload_n 3, 1) := by decide +kernel
theorem dX0_digest_85 : decode cX0_digest 85 = .ok (.iload 4, 2) := by decide +kernel
theorem dX0_digest_87 : decode cX0_digest 87 = .ok (.invokevirtual 99, 3) := by decide +kernel
theorem dX0_digest_90 : decode cX0_digest 90 = .ok (.i2l, 1) := by decide +kernel
theorem dX0_digest_91 : decode cX0_digest 91 = .ok (.ladd, 1) := by decide +kernel
theorem dX0_digest_92 : decode cX0_digest 92 = .ok (.lstore_n 1, 1) := by decide +kernel
theorem dX0_digest_93 : decode cX0_digest 93 = .ok (.iinc 4 1, 3) := by decide +kernel
theorem dX0_digest_96 : decode cX0_digest 96 = .ok (.goto (-24), 3) := by decide +kernel
theorem dX0_digest_99 : decode cX0_digest 99 = .ok (.iconst 0, 1) := by decide +kernel
theorem dX0_digest_100 : decode cX0_digest 100 = .ok (.istore 4, 2) := by decide +kernel
theorem dX0_digest_102 : decode cX0_digest 102 = .ok (.iload 4, 2) := by decide +kernel
theorem dX0_digest_104 : decode cX0_digest 104 = .ok (.bipush 6, 2) := by decide +kernel
theorem dX0_digest_106 : decode cX0_digest 106 = .ok (.if_icmp .ge 24, 3) := by decide +kernel
theorem dX0_digest_109 : decode cX0_digest 109 = .ok (.lload_n 1, 1) := by decide +kernel
theorem dX0_digest_110 : decode cX0_digest 110 = .ok (.ldc2_w 137, 3) := by decide +kernel
theorem dX0_digest_113 : decode cX0_digest 113 = .ok (.lmul, 1) := by decide +kernel
theorem dX0_digest_114 : decode cX0_digest 114 = .ok (.aload_n 0, 1) := by decide +kernel
theorem dX0_digest_115 : decode cX0_digest 115 = .ok (.iload_n 3, 1) := by decide +kernel
theorem dX0_digest_116 : decode cX0_digest 116 = .ok (.iload 4, 2) := by decide +kernel
theorem dX0_digest_118 : decode cX0_digest 118 = .ok (.invokevirtual 105, 3) := by decide +kernel
theorem dX0_digest_121 : decode cX0_digest 121 = .ok (.i2l, 1) := by decide +kernel
theorem dX0_digest_122 : decode cX0_digest 122 = .ok (.ladd, 1) := by decide +kernel
theorem dX0_digest_123 : decode cX0_digest 123 = .ok (.lstore_n 1, 1) := by decide +kernel
theorem dX0_digest_124 : decode cX0_digest 124 = .ok (.iinc 4 1, 3) := by decide +kernel
theorem dX0_digest_127 : decode cX0_digest 127 = .ok (.goto (-25), 3) := by decide +kernel
theorem dX0_digest_130 : decode cX0_digest 130 = .ok (.iconst 0, 1) := by decide +kernel
theorem dX0_digest_131 : decode cX0_digest 131 = .ok (.istore 4, 2) := by decide +kernel
theorem dX0_digest_133 : decode cX0_digest 133 = .ok (.iload 4, 2) := by decide +kernel
theorem dX0_digest_135 : decode cX0_digest 135 = .ok (.bipush 8, 2) := by decide +kernel
theorem dX0_digest_137 : decode cX0_digest 137 = .ok (.if_icmp .ge 24, 3) := by decide +kernel
theorem dX0_digest_140 : decode cX0_digest 140 = .ok (.lload_n 1, 1) := by decide +kernel
theorem dX0_digest_141 : decode cX0_digest 141 = .ok (.ldc2_w 137, 3) := by decide +kernel
theorem dX0_digest_144 : decode cX0_digest 144 = .ok (.lmul, 1) := by decide +kernel
theorem dX0_digest_145 : decode cX0_digest 145 = .ok (.aload_n 0, 1) := by decide +kernel
theorem dX0_digest_146 : decode cX0_digest 146 = .ok (.iload_n 3, 1) := by decide +kernel
theorem dX0_digest_147 : decode cX0_digest 147 = .ok (.iload 4, 2) := by decide +kernel
theorem dX0_digest_149 : decode cX0_digest 149 = .ok (.invokevirtual 110, 3) := by decide +kernel
theorem dX0_digest_152 : decode cX0_digest 152 = .ok (.i2l, 1) := by decide +kernel
theorem dX0_digest_153 : decode cX0_digest 153 = .ok (.ladd, 1) := by decide +kernel
theorem dX0_digest_154 : decode cX0_digest 154 = .ok (.lstore_n 1, 1) := by decide +kernel
theorem dX0_digest_155 : decode cX0_digest 155 = .ok (.iinc 4 1, 3) := by decide +kernel
theorem dX0_digest_158 : decode cX0_digest 158 = .ok (.goto (-25), 3) := by decide +kernel
theorem dX0_digest_161 : decode cX0_digest 161 = .ok (.lload_n 1, 1) := by decide +kernel
theorem dX0_digest_162 : decode cX0_digest 162 = .ok (.ldc2_w 137, 3) := by decide +kernel
theorem dX0_digest_165 : decode cX0_digest 165 = .ok (.lmul, 1) := by decide +kernel
theorem dX0_digest_166 : decode cX0_digest 166 = .ok (.aload_n 0, 1) := by decide +kernel
theorem dX0_digest_167 : decode cX0_digest 167 = .ok (.iload_n 3, 1) := by decide +kernel
theorem dX0_digest_168 : decode cX0_digest 168 = .ok (.invokevirtual 129, 3) := by decide +kernel
theorem dX0_digest_171 : decode cX0_digest 171 = .ok (.i2l, 1) := by decide +kernel
theorem dX0_digest_172 : decode cX0_digest 172 = .ok (.ladd, 1) := by decide +kernel
theorem dX0_digest_173 : decode cX0_digest 173 = .ok (.lstore_n 1, 1) := by decide +kernel
theorem dX0_digest_174 : decode cX0_digest 174 = .ok (.iinc 3 1, 3) := by decide +kernel
theorem dX0_digest_177 : decode cX0_digest 177 = .ok (.goto (-116), 3) := by decide +kernel
theorem dX0_digest_180 : decode cX0_digest 180 = .ok (.lload_n 1, 1) := by decide +kernel
theorem dX0_digest_181 : decode cX0_digest 181 = .ok (.lreturn, 1) := by decide +kernel
theorem dX0_isChord_0 : decode cX0_isChord 0 = .ok (.iload_n 1, 1) := by decide +kernel
theorem dX0_isChord_1 : decode cX0_isChord 1 = .ok (.ifCond .lt 15, 3) := by decide +kernel
theorem dX0_isChord_4 : decode cX0_isChord 4 = .ok (.iload_n 1, 1) := by decide +kernel
theorem dX0_isChord_5 : decode cX0_isChord 5 = .ok (.aload_n 0, 1) := by decide +kernel
theorem dX0_isChord_6 : decode cX0_isChord 6 = .ok (.getfield 7, 3) := by decide +kernel
theorem dX0_isChord_9 : decode cX0_isChord 9 = .ok (.if_icmp .ge 7, 3) := by decide +kernel
theorem dX0_isChord_12 : decode cX0_isChord 12 = .ok (.iconst 1, 1) := by decide +kernel
theorem dX0_isChord_13 : decode cX0_isChord 13 = .ok (.goto 4, 3) := by decide +kernel
theorem dX0_isChord_16 : decode cX0_isChord 16 = .ok (.iconst 0, 1) := by decide +kernel
theorem dX0_isChord_17 : decode cX0_isChord 17 = .ok (.ireturn, 1) := by decide +kernel
theorem dX0_isUpperVoice_0 : decode cX0_isUpperVoice 0 = .ok (.iload_n 0, 1) := by decide +kernel
theorem dX0_isUpperVoice_1 : decode cX0_isUpperVoice 1 = .ok (.iconst 1, 1) := by decide +kernel
theorem dX0_isUpperVoice_2 : decode cX0_isUpperVoice 2 = .ok (.if_icmp .lt 12, 3) := by decide +kernel
theorem dX0_isUpperVoice_5 : decode cX0_isUpperVoice 5 = .ok (.iload_n 0, 1) := by decide +kernel
theorem dX0_isUpperVoice_6 : decode cX0_isUpperVoice 6 = .ok (.iconst 3, 1) := by decide +kernel
theorem dX0_isUpperVoice_7 : decode cX0_isUpperVoice 7 = .ok (.if_icmp .gt 7, 3) := by decide +kernel
theorem dX0_isUpperVoice_10 : decode cX0_isUpperVoice 10 = .ok (.iconst 1, 1) := by decide +kernel
theorem dX0_isUpperVoice_11 : decode cX0_isUpperVoice 11 = .ok (.goto 4, 3) := by decide +kernel
theorem dX0_isUpperVoice_14 : decode cX0_isUpperVoice 14 = .ok (.iconst 0, 1) := by decide +kernel
theorem dX0_isUpperVoice_15 : decode cX0_isUpperVoice 15 = .ok (.ireturn, 1) := by decide +kernel
theorem dX0_isFigure_0 : decode cX0_isFigure 0 = .ok (.iload_n 0, 1) := by decide +kernel
theorem dX0_isFigure_1 : decode cX0_isFigure 1 = .ok (.ifCond .lt 15, 3) := by decide +kernel
theorem dX0_isFigure_4 : decode cX0_isFigure 4 = .ok (.iload_n 0, 1) := by decide +kernel
theorem dX0_isFigure_5 : decode cX0_isFigure 5 = .ok (.getstatic 132, 3) := by decide +kernel
theorem dX0_isFigure_8 : decode cX0_isFigure 8 = .ok (.arraylength, 1) := by decide +kernel
theorem dX0_isFigure_9 : decode cX0_isFigure 9 = .ok (.if_icmp .ge 7, 3) := by decide +kernel
theorem dX0_isFigure_12 : decode cX0_isFigure 12 = .ok (.iconst 1, 1) := by decide +kernel
theorem dX0_isFigure_13 : decode cX0_isFigure 13 = .ok (.goto 4, 3) := by decide +kernel
theorem dX0_isFigure_16 : decode cX0_isFigure 16 = .ok (.iconst 0, 1) := by decide +kernel
theorem dX0_isFigure_17 : decode cX0_isFigure 17 = .ok (.ireturn, 1) := by decide +kernel
theorem dX0_isFault_0 : decode cX0_isFault 0 = .ok (.iload_n 0, 1) := by decide +kernel
theorem dX0_isFault_1 : decode cX0_isFault 1 = .ok (.ifCond .lt 13, 3) := by decide +kernel
theorem dX0_isFault_4 : decode cX0_isFault 4 = .ok (.iload_n 0, 1) := by decide +kernel
theorem dX0_isFault_5 : decode cX0_isFault 5 = .ok (.bipush 8, 2) := by decide +kernel
theorem dX0_isFault_7 : decode cX0_isFault 7 = .ok (.if_icmp .ge 7, 3) := by decide +kernel
theorem dX0_isFault_10 : decode cX0_isFault 10 = .ok (.iconst 1, 1) := by decide +kernel
theorem dX0_isFault_11 : decode cX0_isFault 11 = .ok (.goto 4, 3) := by decide +kernel
theorem dX0_isFault_14 : decode cX0_isFault 14 = .ok (.iconst 0, 1) := by decide +kernel
theorem dX0_isFault_15 : decode cX0_isFault 15 = .ok (.ireturn, 1) := by decide +kernel
theorem dX0_isNote_0 : decode cX0_isNote 0 = .ok (.iload_n 0, 1) := by decide +kernel
theorem dX0_isNote_1 : decode cX0_isNote 1 = .ok (.ifCond .lt 13, 3) := by decide +kernel
theorem dX0_isNote_4 : decode cX0_isNote 4 = .ok (.iload_n 0, 1) := by decide +kernel
theorem dX0_isNote_5 : decode cX0_isNote 5 = .ok (.bipush 28, 2) := by decide +kernel
theorem dX0_isNote_7 : decode cX0_isNote 7 = .ok (.if_icmp .ge 7, 3) := by decide +kernel
theorem dX0_isNote_10 : decode cX0_isNote 10 = .ok (.iconst 1, 1) := by decide +kernel
theorem dX0_isNote_11 : decode cX0_isNote 11 = .ok (.goto 4, 3) := by decide +kernel
theorem dX0_isNote_14 : decode cX0_isNote 14 = .ok (.iconst 0, 1) := by decide +kernel
theorem dX0_isNote_15 : decode cX0_isNote 15 = .ok (.ireturn, 1) := by decide +kernel
theorem dX0_isNoteOf_0 : decode cX0_isNoteOf 0 = .ok (.iload_n 1, 1) := by decide +kernel
theorem dX0_isNoteOf_1 : decode cX0_isNoteOf 1 = .ok (.getstatic 139, 3) := by decide +kernel
theorem dX0_isNoteOf_4 : decode cX0_isNoteOf 4 = .ok (.iload_n 0, 1) := by decide +kernel
theorem dX0_isNoteOf_5 : decode cX0_isNoteOf 5 = .ok (.iaload, 1) := by decide +kernel
theorem dX0_isNoteOf_6 : decode cX0_isNoteOf 6 = .ok (.if_icmp .lt 16, 3) := by decide +kernel
theorem dX0_isNoteOf_9 : decode cX0_isNoteOf 9 = .ok (.iload_n 1, 1) := by decide +kernel
theorem dX0_isNoteOf_10 : decode cX0_isNoteOf 10 = .ok (.getstatic 142, 3) := by decide +kernel
theorem dX0_isNoteOf_13 : decode cX0_isNoteOf 13 = .ok (.iload_n 0, 1) := by decide +kernel
theorem dX0_isNoteOf_14 : decode cX0_isNoteOf 14 = .ok (.iaload, 1) := by decide +kernel
theorem dX0_isNoteOf_15 : decode cX0_isNoteOf 15 = .ok (.if_icmp .gt 7, 3) := by decide +kernel
theorem dX0_isNoteOf_18 : decode cX0_isNoteOf 18 = .ok (.iconst 1, 1) := by decide +kernel
theorem dX0_isNoteOf_19 : decode cX0_isNoteOf 19 = .ok (.goto 4, 3) := by decide +kernel
theorem dX0_isNoteOf_22 : decode cX0_isNoteOf 22 = .ok (.iconst 0, 1) := by decide +kernel
theorem dX0_isNoteOf_23 : decode cX0_isNoteOf 23 = .ok (.ireturn, 1) := by decide +kernel
theorem dX0_noteAt_0 : decode cX0_noteAt 0 = .ok (.aload_n 0, 1) := by decide +kernel
theorem dX0_noteAt_1 : decode cX0_noteAt 1 = .ok (.getfield 21, 3) := by decide +kernel
theorem dX0_noteAt_4 : decode cX0_noteAt 4 = .ok (.iload_n 1, 1) := by decide +kernel
theorem dX0_noteAt_5 : decode cX0_noteAt 5 = .ok (.iconst 4, 1) := by decide +kernel
theorem dX0_noteAt_6 : decode cX0_noteAt 6 = .ok (.imul, 1) := by decide +kernel
theorem dX0_noteAt_7 : decode cX0_noteAt 7 = .ok (.iload_n 2, 1) := by decide +kernel
theorem dX0_noteAt_8 : decode cX0_noteAt 8 = .ok (.iadd, 1) := by decide +kernel
theorem dX0_noteAt_9 : decode cX0_noteAt 9 = .ok (.iaload, 1) := by decide +kernel
theorem dX0_noteAt_10 : decode cX0_noteAt 10 = .ok (.ireturn, 1) := by decide +kernel
theorem dX0_exchangeNote_0 : decode cX0_exchangeNote 0 = .ok (.aload_n 0, 1) := by decide +kernel
theorem dX0_exchangeNote_1 : decode cX0_exchangeNote 1 = .ok (.getfield 21, 3) := by decide +kernel
theorem dX0_exchangeNote_4 : decode cX0_exchangeNote 4 = .ok (.iload_n 1, 1) := by decide +kernel
theorem dX0_exchangeNote_5 : decode cX0_exchangeNote 5 = .ok (.iconst 4, 1) := by decide +kernel
theorem dX0_exchangeNote_6 : decode cX0_exchangeNote 6 = .ok (.imul, 1) := by decide +kernel
theorem dX0_exchangeNote_7 : decode cX0_exchangeNote 7 = .ok (.iload_n 2, 1) := by decide +kernel
theorem dX0_exchangeNote_8 : decode cX0_exchangeNote 8 = .ok (.iadd, 1) := by decide +kernel
theorem dX0_exchangeNote_9 : decode cX0_exchangeNote 9 = .ok (.iaload, 1) := by decide +kernel
theorem dX0_exchangeNote_10 : decode cX0_exchangeNote 10 = .ok (.istore 4, 2) := by decide +kernel
theorem dX0_exchangeNote_12 : decode cX0_exchangeNote 12 = .ok (.aload_n 0, 1) := by decide +kernel
theorem dX0_exchangeNote_13 : decode cX0_exchangeNote 13 = .ok (.getfield 21, 3) := by decide +kernel
theorem dX0_exchangeNote_16 : decode cX0_exchangeNote 16 = .ok (.iload_n 1, 1) := by decide +kernel
theorem dX0_exchangeNote_17 : decode cX0_exchangeNote 17 = .ok (.iconst 4, 1) := by decide +kernel
theorem dX0_exchangeNote_18 : decode cX0_exchangeNote 18 = .ok (.imul, 1) := by decide +kernel
theorem dX0_exchangeNote_19 : decode cX0_exchangeNote 19 = .ok (.iload_n 2, 1) := by decide +kernel
theorem dX0_exchangeNote_20 : decode cX0_exchangeNote 20 = .ok (.iadd, 1) := by decide +kernel
theorem dX0_exchangeNote_21 : decode cX0_exchangeNote 21 = .ok (.iload_n 3, 1) := by decide +kernel
theorem dX0_exchangeNote_22 : decode cX0_exchangeNote 22 = .ok (.iastore, 1) := by decide +kernel
theorem dX0_exchangeNote_23 : decode cX0_exchangeNote 23 = .ok (.iload 4, 2) := by decide +kernel
theorem dX0_exchangeNote_25 : decode cX0_exchangeNote 25 = .ok (.ireturn, 1) := by decide +kernel
theorem dX0_putNotes_0 : decode cX0_putNotes 0 = .ok (.aload_n 0, 1) := by decide +kernel
theorem dX0_putNotes_1 : decode cX0_putNotes 1 = .ok (.getfield 21, 3) := by decide +kernel
theorem dX0_putNotes_4 : decode cX0_putNotes 4 = .ok (.iload_n 1, 1) := by decide +kernel
theorem dX0_putNotes_5 : decode cX0_putNotes 5 = .ok (.iconst 4, 1) := by decide +kernel
theorem dX0_putNotes_6 : decode cX0_putNotes 6 = .ok (.imul, 1) := by decide +kernel
theorem dX0_putNotes_7 : decode cX0_putNotes 7 = .ok (.iconst 1, 1) := by decide +kernel
theorem dX0_putNotes_8 : decode cX0_putNotes 8 = .ok (.iadd, 1) := by decide +kernel
theorem dX0_putNotes_9 : decode cX0_putNotes 9 = .ok (.iload_n 2, 1) := by decide +kernel
theorem dX0_putNotes_10 : decode cX0_putNotes 10 = .ok (.iastore, 1) := by decide +kernel
theorem dX0_putNotes_11 : decode cX0_putNotes 11 = .ok (.aload_n 0, 1) := by decide +kernel
theorem dX0_putNotes_12 : decode cX0_putNotes 12 = .ok (.getfield 21, 3) := by decide +kernel
theorem dX0_putNotes_15 : decode cX0_putNotes 15 = .ok (.iload_n 1, 1) := by decide +kernel
theorem dX0_putNotes_16 : decode cX0_putNotes 16 = .ok (.iconst 4, 1) := by decide +kernel
theorem dX0_putNotes_17 : decode cX0_putNotes 17 = .ok (.imul, 1) := by decide +kernel
theorem dX0_putNotes_18 : decode cX0_putNotes 18 = .ok (.iconst 2, 1) := by decide +kernel
theorem dX0_putNotes_19 : decode cX0_putNotes 19 = .ok (.iadd, 1) := by decide +kernel
theorem dX0_putNotes_20 : decode cX0_putNotes 20 = .ok (.iload_n 3, 1) := by decide +kernel
theorem dX0_putNotes_21 : decode cX0_putNotes 21 = .ok (.iastore, 1) := by decide +kernel
theorem dX0_putNotes_22 : decode cX0_putNotes 22 = .ok (.aload_n 0, 1) := by decide +kernel
theorem dX0_putNotes_23 : decode cX0_putNotes 23 = .ok (.getfield 21, 3) := by decide +kernel
theorem dX0_putNotes_26 : decode cX0_putNotes 26 = .ok (.iload_n 1, 1) := by decide +kernel
theorem dX0_putNotes_27 : decode cX0_putNotes 27 = .ok (.iconst 4, 1) := by decide +kernel
theorem dX0_putNotes_28 : decode cX0_putNotes 28 = .ok (.imul, 1) := by decide +kernel
theorem dX0_putNotes_29 : decode cX0_putNotes 29 = .ok (.iconst 3, 1) := by decide +kernel
theorem dX0_putNotes_30 : decode cX0_putNotes 30 = .ok (.iadd, 1) := by decide +kernel
theorem dX0_putNotes_31 : decode cX0_putNotes 31 = .ok (.iload 4, 2) := by decide +kernel
theorem dX0_putNotes_33 : decode cX0_putNotes 33 = .ok (.iastore, 1) := by decide +kernel
theorem dX0_putNotes_34 : decode cX0_putNotes 34 = .ok (.return_, 1) := by decide +kernel
set_option maxRecDepth 20000 in
theorem ggX0_putWay_X0_putNotes : GoodIn wsX0_putWay wsX0_putNotes := goodIn_r _ [5, 6, 7, 8, 9, 10, 11, 12] (by decide +kernel) (by decide +kernel)
set_option maxRecDepth 20000 in
theorem gX0_putWay_X0_putNotes : GoodIn wsX0_putWay (wsV RX0 52 RX0 yX0_putNotes wsX0_putNotes) := goodIn_app (goodIn_of _ (by decide +kernel)) ggX0_putWay_X0_putNotes
theorem dX0_putWay_0 : decode cX0_putWay 0 = .ok (.aload_n 0, 1) := by decide +kernel
theorem dX0_putWay_1 : decode cX0_putWay 1 = .ok (.iload_n 1, 1) := by decide +kernel
theorem dX0_putWay_2 : decode cX0_putWay 2 = .ok (.iload_n 2, 1) := by decide +kernel
theorem dX0_putWay_3 : decode cX0_putWay 3 = .ok (.sipush 784, 3) := by decide +kernel
theorem dX0_putWay_6 : decode cX0_putWay 6 = .ok (.idiv, 1) := by decide +kernel
theorem dX0_putWay_7 : decode cX0_putWay 7 = .ok (.iload_n 2, 1) := by decide +kernel
theorem dX0_putWay_8 : decode cX0_putWay 8 = .ok (.bipush 28, 2) := by decide +kernel
theorem dX0_putWay_10 : decode cX0_putWay 10 = .ok (.idiv, 1) := by decide +kernel
theorem dX0_putWay_11 : decode cX0_putWay 11 = .ok (.bipush 28, 2) := by decide +kernel
theorem dX0_putWay_13 : decode cX0_putWay 13 = .ok (.irem, 1) := by decide +kernel
theorem dX0_putWay_14 : decode cX0_putWay 14 = .ok (.iload_n 2, 1) := by decide +kernel
theorem dX0_putWay_15 : decode cX0_putWay 15 = .ok (.bipush 28, 2) := by decide +kernel
theorem dX0_putWay_17 : decode cX0_putWay 17 = .ok (.irem, 1) := by decide +kernel
theorem dX0_putWay_18 : decode cX0_putWay 18 = .ok (.invokevirtual 52, 3) := by decide +kernel
theorem dX0_putWay_21 : decode cX0_putWay 21 = .ok (.return_, 1) := by decide +kernel
theorem dX0_pitchOf_0 : decode cX0_pitchOf 0 = .ok (.iload_n 1, 1) := by decide +kernel
theorem dX0_pitchOf_1 : decode cX0_pitchOf 1 = .ok (.bipush 7, 2) := by decide +kernel
theorem dX0_pitchOf_3 : decode cX0_pitchOf 3 = .ok (.irem, 1) := by decide +kernel
theorem dX0_pitchOf_4 : decode cX0_pitchOf 4 = .ok (.istore_n 2, 1) := by decide +kernel
theorem dX0_pitchOf_5 : decode cX0_pitchOf 5 = .ok (.bipush 12, 2) := by decide +kernel
theorem dX0_pitchOf_7 : decode cX0_pitchOf 7 = .ok (.iload_n 1, 1) := by decide +kernel
theorem dX0_pitchOf_8 : decode cX0_pitchOf 8 = .ok (.bipush 7, 2) := by decide +kernel
theorem dX0_pitchOf_10 : decode cX0_pitchOf 10 = .ok (.idiv, 1) := by decide +kernel
theorem dX0_pitchOf_11 : decode cX0_pitchOf 11 = .ok (.imul, 1) := by decide +kernel
theorem dX0_pitchOf_12 : decode cX0_pitchOf 12 = .ok (.aload_n 0, 1) := by decide +kernel
theorem dX0_pitchOf_13 : decode cX0_pitchOf 13 = .ok (.getfield 13, 3) := by decide +kernel
theorem dX0_pitchOf_16 : decode cX0_pitchOf 16 = .ok (.ifCond .eq 11, 3) := by decide +kernel
theorem dX0_pitchOf_19 : decode cX0_pitchOf 19 = .ok (.getstatic 145, 3) := by decide +kernel
theorem dX0_pitchOf_22 : decode cX0_pitchOf 22 = .ok (.iload_n 2, 1) := by decide +kernel
theorem dX0_pitchOf_23 : decode cX0_pitchOf 23 = .ok (.iaload, 1) := by decide +kernel
theorem dX0_pitchOf_24 : decode cX0_pitchOf 24 = .ok (.goto 8, 3) := by decide +kernel
theorem dX0_pitchOf_27 : decode cX0_pitchOf 27 = .ok (.getstatic 148, 3) := by decide +kernel
theorem dX0_pitchOf_30 : decode cX0_pitchOf 30 = .ok (.iload_n 2, 1) := by decide +kernel
theorem dX0_pitchOf_31 : decode cX0_pitchOf 31 = .ok (.iaload, 1) := by decide +kernel
theorem dX0_pitchOf_32 : decode cX0_pitchOf 32 = .ok (.iadd, 1) := by decide +kernel
theorem dX0_pitchOf_33 : decode cX0_pitchOf 33 = .ok (.ireturn, 1) := by decide +kernel
theorem dX0_stepAbove_0 : decode cX0_stepAbove 0 = .ok (.iload_n 1, 1) := by decide +kernel
theorem dX0_stepAbove_1 : decode cX0_stepAbove 1 = .ok (.iload_n 0, 1) := by decide +kernel
theorem dX0_stepAbove_2 : decode cX0_stepAbove 2 = .ok (.isub, 1) := by decide +kernel
theorem dX0_stepAbove_3 : decode cX0_stepAbove 3 = .ok (.bipush 7, 2) := by decide +kernel
theorem dX0_stepAbove_5 : decode cX0_stepAbove 5 = .ok (.irem, 1) := by decide +kernel
theorem dX0_stepAbove_6 : decode cX0_stepAbove 6 = .ok (.istore_n 2, 1) := by decide +kernel
theorem dX0_stepAbove_7 : decode cX0_stepAbove 7 = .ok (.iload_n 2, 1) := by decide +kernel
theorem dX0_stepAbove_8 : decode cX0_stepAbove 8 = .ok (.ifCond .ge 10, 3) := by decide +kernel
theorem dX0_stepAbove_11 : decode cX0_stepAbove 11 = .ok (.iload_n 2, 1) := by decide +kernel
theorem dX0_stepAbove_12 : decode cX0_stepAbove 12 = .ok (.bipush 7, 2) := by decide +kernel
theorem dX0_stepAbove_14 : decode cX0_stepAbove 14 = .ok (.iadd, 1) := by decide +kernel
theorem dX0_stepAbove_15 : decode cX0_stepAbove 15 = .ok (.goto 4, 3) := by decide +kernel
theorem dX0_stepAbove_18 : decode cX0_stepAbove 18 = .ok (.iload_n 2, 1) := by decide +kernel
theorem dX0_stepAbove_19 : decode cX0_stepAbove 19 = .ok (.ireturn, 1) := by decide +kernel
set_option maxRecDepth 20000 in
theorem ggX0_moves_X0_noteAt : GoodIn wsX0_moves wsX0_noteAt := goodIn_r _ [5, 6, 7, 8, 9, 10, 11, 12] (by decide +kernel) (by decide +kernel)
set_option maxRecDepth 20000 in
theorem gX0_moves_X0_noteAt : GoodIn wsX0_moves (wsV RX0 99 RX0 yX0_noteAt wsX0_noteAt) := goodIn_app (goodIn_of _ (by decide +kernel)) ggX0_moves_X0_noteAt
theorem dX0_moves_0 : decode cX0_moves 0 = .ok (.aload_n 0, 1) := by decide +kernel
theorem dX0_moves_1 : decode cX0_moves 1 = .ok (.iload_n 1, 1) := by decide +kernel
theorem dX0_moves_2 : decode cX0_moves 2 = .ok (.iload_n 2, 1) := by decide +kernel
theorem dX0_moves_3 : decode cX0_moves 3 = .ok (.invokevirtual 99, 3) := by decide +kernel
theorem dX0_moves_6 : decode cX0_moves 6 = .ok (.aload_n 0, 1) := by decide +kernel
theorem dX0_moves_7 : decode cX0_moves 7 = .ok (.iload_n 1, 1) := by decide +kernel
theorem dX0_moves_8 : decode cX0_moves 8 = .ok (.iconst 1, 1) := by decide +kernel
theorem dX0_moves_9 : decode cX0_moves 9 = .ok (.isub, 1) := by decide +kernel
theorem dX0_moves_10 : decode cX0_moves 10 = .ok (.iload_n 2, 1) := by decide +kernel
theorem dX0_moves_11 : decode cX0_moves 11 = .ok (.invokevirtual 99, 3) := by decide +kernel
theorem dX0_moves_14 : decode cX0_moves 14 = .ok (.if_icmp .eq 7, 3) := by decide +kernel
theorem dX0_moves_17 : decode cX0_moves 17 = .ok (.iconst 1, 1) := by decide +kernel
theorem dX0_moves_18 : decode cX0_moves 18 = .ok (.goto 4, 3) := by decide +kernel
theorem dX0_moves_21 : decode cX0_moves 21 = .ok (.iconst 0, 1) := by decide +kernel
theorem dX0_moves_22 : decode cX0_moves 22 = .ok (.ireturn, 1) := by decide +kernel
set_option maxRecDepth 20000 in
theorem ggX0_belongs_X0_noteAt : GoodIn wsX0_belongs wsX0_noteAt := goodIn_r _ [7, 8, 12, 13, 14, 15, 16, 17] (by decide +kernel) (by decide +kernel)
set_option maxRecDepth 20000 in
theorem gX0_belongs_X0_noteAt : GoodIn wsX0_belongs (wsV RX0 99 RX0 yX0_noteAt wsX0_noteAt) := goodIn_app (goodIn_of _ (by decide +kernel)) ggX0_belongs_X0_noteAt
set_option maxRecDepth 20000 in
theorem ggX0_belongs_X0_stepAbove : GoodIn wsX0_belongs wsX0_stepAbove := goodIn_r _ [11] (by decide +kernel) (by decide +kernel)
set_option maxRecDepth 20000 in
theorem gX0_belongs_X0_stepAbove : GoodIn wsX0_belongs (va_wsS RX0 151 yX0_stepAbove wsX0_stepAbove) := goodIn_app (goodIn_of _ (by decide +kernel)) ggX0_belongs_X0_stepAbove
theorem dX0_belongs_0 : decode cX0_belongs 0 = .ok (.iconst 1, 1) := by decide +kernel
theorem dX0_belongs_1 : decode cX0_belongs 1 = .ok (.aload_n 0, 1) := by decide +kernel
theorem dX0_belongs_2 : decode cX0_belongs 2 = .ok (.iload_n 1, 1) := by decide +kernel
theorem dX0_belongs_3 : decode cX0_belongs 3 = .ok (.iconst 0, 1) := by decide +kernel
theorem dX0_belongs_4 : decode cX0_belongs 4 = .ok (.invokevirtual 99, 3) := by decide +kernel
theorem dX0_belongs_7 : decode cX0_belongs 7 = .ok (.iload_n 2, 1) := by decide +kernel
theorem dX0_belongs_8 : decode cX0_belongs 8 = .ok (.invokestatic 151, 3) := by decide +kernel
theorem dX0_belongs_11 : decode cX0_belongs 11 = .ok (.ishl, 1) := by decide +kernel
theorem dX0_belongs_12 : decode cX0_belongs 12 = .ok (.istore_n 3, 1) := by decide +kernel
theorem dX0_belongs_13 : decode cX0_belongs 13 = .ok (.getstatic 132, 3) := by decide +kernel
theorem dX0_belongs_16 : decode cX0_belongs 16 = .ok (.aload_n 0, 1) := by decide +kernel
theorem dX0_belongs_17 : decode cX0_belongs 17 = .ok (.getfield 17, 3) := by decide +kernel
theorem dX0_belongs_20 : decode cX0_belongs 20 = .ok (.iload_n 1, 1) := by decide +kernel
theorem dX0_belongs_21 : decode cX0_belongs 21 = .ok (.iaload, 1) := by decide +kernel
theorem dX0_belongs_22 : decode cX0_belongs 22 = .ok (.iaload, 1) := by decide +kernel
theorem dX0_belongs_23 : decode cX0_belongs 23 = .ok (.iload_n 3, 1) := by decide +kernel
theorem dX0_belongs_24 : decode cX0_belongs 24 = .ok (.iand, 1) := by decide +kernel
theorem dX0_belongs_25 : decode cX0_belongs 25 = .ok (.ifCond .eq 7, 3) := by decide +kernel
theorem dX0_belongs_28 : decode cX0_belongs 28 = .ok (.iconst 1, 1) := by decide +kernel
theorem dX0_belongs_29 : decode cX0_belongs 29 = .ok (.goto 4, 3) := by decide +kernel
theorem dX0_belongs_32 : decode cX0_belongs 32 = .ok (.iconst 0, 1) := by decide +kernel
theorem dX0_belongs_33 : decode cX0_belongs 33 = .ok (.ireturn, 1) := by decide +kernel
set_option maxRecDepth 20000 in
theorem ggX0_isSet_X0_isChord : GoodIn wsX0_isSet wsX0_isChord := goodIn_r _ [5, 6, 12, 13, 14, 15, 16, 17] (by decide +kernel) (by decide +kernel)
set_option maxRecDepth 20000 in
theorem gX0_isSet_X0_isChord : GoodIn wsX0_isSet (wsV RX0 56 RX0 yX0_isChord wsX0_isChord) := goodIn_app (goodIn_of _ (by decide +kernel)) ggX0_isSet_X0_isChord
set_option maxRecDepth 20000 in
theorem ggX0_isSet_X0_noteAt : GoodIn wsX0_isSet wsX0_noteAt := goodIn_r _ [10, 11, 12, 13, 14, 15, 16, 17] (by decide +kernel) (by decide +kernel)
set_option maxRecDepth 20000 in
theorem gX0_isSet_X0_noteAt : GoodIn wsX0_isSet (wsV RX0 99 RX0 yX0_noteAt wsX0_noteAt) := goodIn_app (goodIn_of _ (by decide +kernel)) ggX0_isSet_X0_noteAt
theorem dX0_isSet_0 : decode cX0_isSet 0 = .ok (.aload_n 0, 1) := by decide +kernel
theorem dX0_isSet_1 : decode cX0_isSet 1 = .ok (.iload_n 1, 1) := by decide +kernel
theorem dX0_isSet_2 : decode cX0_isSet 2 = .ok (.invokevirtual 56, 3) := by decide +kernel
theorem dX0_isSet_5 : decode cX0_isSet 5 = .ok (.ifCond .eq 37, 3) := by decide +kernel
theorem dX0_isSet_8 : decode cX0_isSet 8 = .ok (.aload_n 0, 1) := by decide +kernel
theorem dX0_isSet_9 : decode cX0_isSet 9 = .ok (.iload_n 1, 1) := by decide +kernel
theorem dX0_isSet_10 : decode cX0_isSet 10 = .ok (.iconst 1, 1) := by decide +kernel
theorem dX0_isSet_11 : decode cX0_isSet 11 = .ok (.invokevirtual 99, 3) := by decide +kernel
theorem dX0_isSet_14 : decode cX0_isSet 14 = .ok (.iconst (-1), 1) := by decide +kernel
theorem dX0_isSet_15 : decode cX0_isSet 15 = .ok (.if_icmp .eq 27, 3) := by decide +kernel
theorem dX0_isSet_18 : decode cX0_isSet 18 = .ok (.aload_n 0, 1) := by decide +kernel
theorem dX0_isSet_19 : decode cX0_isSet 19 = .ok (.iload_n 1, 1) := by decide +kernel
theorem dX0_isSet_20 : decode cX0_isSet 20 = .ok (.iconst 2, 1) := by decide +kernel
theorem dX0_isSet_21 : decode cX0_isSet 21 = .ok (.invokevirtual 99, 3) := by decide +kernel
theorem dX0_isSet_24 : decode cX0_isSet 24 = .ok (.iconst (-1), 1) := by decide +kernel
theorem dX0_isSet_25 : decode cX0_isSet 25 = .ok (.if_icmp .eq 17, 3) := by decide +kernel
theorem dX0_isSet_28 : decode cX0_isSet 28 = .ok (.aload_n 0, 1) := by decide +kernel
theorem dX0_isSet_29 : decode cX0_isSet 29 = .ok (.iload_n 1, 1) := by decide +kernel
theorem dX0_isSet_30 : decode cX0_isSet 30 = .ok (.iconst 3, 1) := by decide +kernel
theorem dX0_isSet_31 : decode cX0_isSet 31 = .ok (.invokevirtual 99, 3) := by decide +kernel
theorem dX0_isSet_34 : decode cX0_isSet 34 = .ok (.iconst (-1), 1) := by decide +kernel
theorem dX0_isSet_35 : decode cX0_isSet 35 = .ok (.if_icmp .eq 7, 3) := by decide +kernel
theorem dX0_isSet_38 : decode cX0_isSet 38 = .ok (.iconst 1, 1) := by decide +kernel
theorem dX0_isSet_39 : decode cX0_isSet 39 = .ok (.goto 4, 3) := by decide +kernel
theorem dX0_isSet_42 : decode cX0_isSet 42 = .ok (.iconst 0, 1) := by decide +kernel
theorem dX0_isSet_43 : decode cX0_isSet 43 = .ok (.ireturn, 1) := by decide +kernel
set_option maxRecDepth 20000 in
theorem ggX0_isRight_X0_isSet : GoodIn wsX0_isRight wsX0_isSet := goodIn_r _ [5, 6, 7, 8, 4, 9, 10, 11, 12, 13, 14, 15, 25, 26, 27, 28, 29, 30] (by decide +kernel) (by decide +kernel)
set_option maxRecDepth 20000 in
theorem gX0_isRight_X0_isSet : GoodIn wsX0_isRight (wsV RX0 154 RX0 yX0_isSet wsX0_isSet) := goodIn_app (goodIn_of _ (by decide +kernel)) ggX0_isRight_X0_isSet
set_option maxRecDepth 20000 in
theorem ggX0_isRight_X0_noteAt : GoodIn wsX0_isRight wsX0_noteAt := goodIn_r _ [14, 15, 25, 26, 27, 28, 29, 30] (by decide +kernel) (by decide +kernel)
set_option maxRecDepth 20000 in
theorem gX0_isRight_X0_noteAt : GoodIn wsX0_isRight (wsV RX0 99 RX0 yX0_noteAt wsX0_noteAt) := goodIn_app (goodIn_of _ (by decide +kernel)) ggX0_isRight_X0_noteAt
set_option maxRecDepth 20000 in
theorem ggX0_isRight_X0_isRightWith : GoodIn wsX0_isRight wsX0_isRightWith := goodIn_r _ [19, 20, 21, 11, 12, 13, 4, 14, 15, 22, 23, 24, 25, 26, 27, 28, 29, 30] (by decide +kernel) (by decide +kernel)
set_option maxRecDepth 20000 in
theorem gX0_isRight_X0_isRightWith : GoodIn wsX0_isRight (wsV RX0 157 RX0 yX0_isRightWith wsX0_isRightWith) := goodIn_app (goodIn_of _ (by decide +kernel)) ggX0_isRight_X0_isRightWith
theorem dX0_isRight_0 : decode cX0_isRight 0 = .ok (.aload_n 0, 1) := by decide +kernel
theorem dX0_isRight_1 : decode cX0_isRight 1 = .ok (.iload_n 1, 1) := by decide +kernel
theorem dX0_isRight_2 : decode cX0_isRight 2 = .ok (.invokevirtual 154, 3) := by decide +kernel
theorem dX0_isRight_5 : decode cX0_isRight 5 = .ok (.ifCond .eq 33, 3) := by decide +kernel
theorem dX0_isRight_8 : decode cX0_isRight 8 = .ok (.aload_n 0, 1) := by decide +kernel
theorem dX0_isRight_9 : decode cX0_isRight 9 = .ok (.iload_n 1, 1) := by decide +kernel
theorem dX0_isRight_10 : decode cX0_isRight 10 = .ok (.aload_n 0, 1) := by decide +kernel
theorem dX0_isRight_11 : decode cX0_isRight 11 = .ok (.iload_n 1, 1) := by decide +kernel
theorem dX0_isRight_12 : decode cX0_isRight 12 = .ok (.iconst 1, 1) := by decide +kernel
theorem dX0_isRight_13 : decode cX0_isRight 13 = .ok (.invokevirtual 99, 3) := by decide +kernel
theorem dX0_isRight_16 : decode cX0_isRight 16 = .ok (.aload_n 0, 1) := by decide +kernel
theorem dX0_isRight_17 : decode cX0_isRight 17 = .ok (.iload_n 1, 1) := by decide +kernel
theorem dX0_isRight_18 : decode cX0_isRight 18 = .ok (.iconst 2, 1) := by decide +kernel
theorem dX0_isRight_19 : decode cX0_isRight 19 = .ok (.invokevirtual 99, 3) := by decide +kernel
theorem dX0_isRight_22 : decode cX0_isRight 22 = .ok (.aload_n 0, 1) := by decide +kernel
theorem dX0_isRight_23 : decode cX0_isRight 23 = .ok (.iload_n 1, 1) := by decide +kernel
theorem dX0_isRight_24 : decode cX0_isRight 24 = .ok (.iconst 3, 1) := by decide +kernel
theorem dX0_isRight_25 : decode cX0_isRight 25 = .ok (.invokevirtual 99, 3) := by decide +kernel
theorem dX0_isRight_28 : decode cX0_isRight 28 = .ok (.invokevirtual 157, 3) := by decide +kernel
theorem dX0_isRight_31 : decode cX0_isRight 31 = .ok (.ifCond .eq 7, 3) := by decide +kernel
theorem dX0_isRight_34 : decode cX0_isRight 34 = .ok (.iconst 1, 1) := by decide +kernel
theorem dX0_isRight_35 : decode cX0_isRight 35 = .ok (.goto 4, 3) := by decide +kernel
theorem dX0_isRight_38 : decode cX0_isRight 38 = .ok (.iconst 0, 1) := by decide +kernel
theorem dX0_isRight_39 : decode cX0_isRight 39 = .ok (.ireturn, 1) := by decide +kernel
set_option maxRecDepth 20000 in
theorem ggX0_isRightWith_X0_noteAt : GoodIn wsX0_isRightWith wsX0_noteAt := goodIn_r _ [7, 8, 12, 13, 14, 15, 16, 17] (by decide +kernel) (by decide +kernel)
set_option maxRecDepth 20000 in
theorem gX0_isRightWith_X0_noteAt : GoodIn wsX0_isRightWith (wsV RX0 99 RX0 yX0_noteAt wsX0_noteAt) := goodIn_app (goodIn_of _ (by decide +kernel)) ggX0_isRightWith_X0_noteAt
set_option maxRecDepth 20000 in
theorem ggX0_isRightWith_X0_stepAbove : GoodIn wsX0_isRightWith wsX0_stepAbove := goodIn_r _ [11] (by decide +kernel) (by decide +kernel)
set_option maxRecDepth 20000 in
theorem gX0_isRightWith_X0_stepAbove : GoodIn wsX0_isRightWith (va_wsS RX0 151 yX0_stepAbove wsX0_stepAbove) := goodIn_app (goodIn_of _ (by decide +kernel)) ggX0_isRightWith_X0_stepAbove
theorem dX0_isRightWith_0 : decode cX0_isRightWith 0 = .ok (.aload_n 0, 1) := by decide +kernel
theorem dX0_isRightWith_1 : decode cX0_isRightWith 1 = .ok (.iload_n 1, 1) := by decide +kernel
theorem dX0_isRightWith_2 : decode cX0_isRightWith 2 = .ok (.iconst 0, 1) := by decide +kernel
theorem dX0_isRightWith_3 : decode cX0_isRightWith 3 = .ok (.invokevirtual 99, 3) := by decide +kernel
theorem dX0_isRightWith_6 : decode cX0_isRightWith 6 = .ok (.istore 5, 2) := by decide +kernel
theorem dX0_isRightWith_8 : decode cX0_isRightWith 8 = .ok (.iload_n 2, 1) := by decide +kernel
theorem dX0_isRightWith_9 : decode cX0_isRightWith 9 = .ok (.iload 5, 2) := by decide +kernel
theorem dX0_isRightWith_11 : decode cX0_isRightWith 11 = .ok (.if_icmp .lt 14, 3) := by decide +kernel
theorem dX0_isRightWith_14 : decode cX0_isRightWith 14 = .ok (.iload_n 3, 1) := by decide +kernel
theorem dX0_isRightWith_15 : decode cX0_isRightWith 15 = .ok (.iload_n 2, 1) := by decide +kernel
theorem dX0_isRightWith_16 : decode cX0_isRightWith 16 = .ok (.if_icmp .lt 9, 3) := by decide +kernel
theorem dX0_isRightWith_19 : decode cX0_isRightWith 19 = .ok (.iload 4, 2) := by decide +kernel
theorem dX0_isRightWith_21 : decode cX0_isRightWith 21 = .ok (.iload_n 3, 1) := by decide +kernel
theorem dX0_isRightWith_22 : decode cX0_isRightWith 22 = .ok (.if_icmp .ge 5, 3) := by decide +kernel
theorem dX0_isRightWith_25 : decode cX0_isRightWith 25 = .ok (.iconst 0, 1) := by decide +kernel
theorem dX0_isRightWith_26 : decode cX0_isRightWith 26 = .ok (.ireturn, 1) := by decide +kernel
theorem dX0_isRightWith_27 : decode cX0_isRightWith 27 = .ok (.iconst 1, 1) := by decide +kernel
theorem dX0_isRightWith_28 : decode cX0_isRightWith 28 = .ok (.istore 6, 2) := by decide +kernel
theorem dX0_isRightWith_30 : decode cX0_isRightWith 30 = .ok (.iload 6, 2) := by decide +kernel
theorem dX0_isRightWith_32 : decode cX0_isRightWith 32 = .ok (.iconst 1, 1) := by decide +kernel
theorem dX0_isRightWith_33 : decode cX0_isRightWith 33 = .ok (.iload 5, 2) := by decide +kernel
theorem dX0_isRightWith_35 : decode cX0_isRightWith 35 = .ok (.iload_n 2, 1) := by decide +kernel
theorem dX0_isRightWith_36 : decode cX0_isRightWith 36 = .ok (.invokestatic 151, 3) := by decide +kernel
theorem dX0_isRightWith_39 : decode cX0_isRightWith 39 = .ok (.ishl, 1) := by decide +kernel
theorem dX0_isRightWith_40 : decode cX0_isRightWith 40 = .ok (.ior, 1) := by decide +kernel
theorem dX0_isRightWith_41 : decode cX0_isRightWith 41 = .ok (.istore 6, 2) := by decide +kernel
theorem dX0_isRightWith_43 : decode cX0_isRightWith 43 = .ok (.iload 6, 2) := by decide +kernel
theorem dX0_isRightWith_45 : decode cX0_isRightWith 45 = .ok (.iconst 1, 1) := by decide +kernel
theorem dX0_isRightWith_46 : decode cX0_isRightWith 46 = .ok (.iload 5, 2) := by decide +kernel
theorem dX0_isRightWith_48 : decode cX0_isRightWith 48 = .ok (.iload_n 3, 1) := by decide +kernel
theorem dX0_isRightWith_49 : decode cX0_isRightWith 49 = .ok (.invokestatic 151, 3) := by decide +kernel
theorem dX0_isRightWith_52 : decode cX0_isRightWith 52 = .ok (.ishl, 1) := by decide +kernel
theorem dX0_isRightWith_53 : decode cX0_isRightWith 53 = .ok (.ior, 1) := by decide +kernel
theorem dX0_isRightWith_54 : decode cX0_isRightWith 54 = .ok (.istore 6, 2) := by decide +kernel
theorem dX0_isRightWith_56 : decode cX0_isRightWith 56 = .ok (.iload 6, 2) := by decide +kernel
theorem dX0_isRightWith_58 : decode cX0_isRightWith 58 = .ok (.iconst 1, 1) := by decide +kernel
theorem dX0_isRightWith_59 : decode cX0_isRightWith 59 = .ok (.iload 5, 2) := by decide +kernel
theorem dX0_isRightWith_61 : decode cX0_isRightWith 61 = .ok (.iload 4, 2) := by decide +kernel
theorem dX0_isRightWith_63 : decode cX0_isRightWith 63 = .ok (.invokestatic 151, 3) := by decide +kernel
theorem dX0_isRightWith_66 : decode cX0_isRightWith 66 = .ok (.ishl, 1) := by decide +kernel
theorem dX0_isRightWith_67 : decode cX0_isRightWith 67 = .ok (.ior, 1) := by decide +kernel
theorem dX0_isRightWith_68 : decode cX0_isRightWith 68 = .ok (.istore 6, 2) := by decide +kernel
theorem dX0_isRightWith_70 : decode cX0_isRightWith 70 = .ok (.iload 6, 2) := by decide +kernel
theorem dX0_isRightWith_72 : decode cX0_isRightWith 72 = .ok (.getstatic 132, 3) := by decide +kernel
theorem dX0_isRightWith_75 : decode cX0_isRightWith 75 = .ok (.aload_n 0, 1) := by decide +kernel
theorem dX0_isRightWith_76 : decode cX0_isRightWith 76 = .ok (.getfield 17, 3) := by decide +kernel
theorem dX0_isRightWith_79 : decode cX0_isRightWith 79 = .ok (.iload_n 1, 1) := by decide +kernel
theorem dX0_isRightWith_80 : decode cX0_isRightWith 80 = .ok (.iaload, 1) := by decide +kernel
theorem dX0_isRightWith_81 : decode cX0_isRightWith 81 = .ok (.iaload, 1) := by decide +kernel
theorem dX0_isRightWith_82 : decode cX0_isRightWith 82 = .ok (.if_icmp .ne 7, 3) := by decide +kernel
theorem dX0_isRightWith_85 : decode cX0_isRightWith 85 = .ok (.iconst 1, 1) := by decide +kernel
theorem dX0_isRightWith_86 : decode cX0_isRightWith 86 = .ok (.goto 4, 3) := by decide +kernel
theorem dX0_isRightWith_89 : decode cX0_isRightWith 89 = .ok (.iconst 0, 1) := by decide +kernel
theorem dX0_isRightWith_90 : decode cX0_isRightWith 90 = .ok (.ireturn, 1) := by decide +kernel
set_option maxRecDepth 20000 in
theorem ggX0_follows_X0_isSet : GoodIn wsX0_follows wsX0_isSet := goodIn_r _ [5, 6, 7, 8, 4, 9, 10, 11, 12, 13, 14, 15, 16, 17, 18, 19, 20, 21] (by decide +kernel) (by decide +kernel)
set_option maxRecDepth 20000 in
theorem gX0_follows_X0_isSet : GoodIn wsX0_follows (wsV RX0 154 RX0 yX0_isSet wsX0_isSet) := goodIn_app (goodIn_of _ (by decide +kernel)) ggX0_follows_X0_isSet
theorem dX0_follows_0 : decode cX0_follows 0 = .ok (.aload_n 0, 1) := by decide +kernel
theorem dX0_follows_1 : decode cX0_follows 1 = .ok (.iload_n 1, 1) := by decide +kernel
theorem dX0_follows_2 : decode cX0_follows 2 = .ok (.invokevirtual 154, 3) := by decide +kernel
theorem dX0_follows_5 : decode cX0_follows 5 = .ok (.ifCond .eq 17, 3) := by decide +kernel
theorem dX0_follows_8 : decode cX0_follows 8 = .ok (.aload_n 0, 1) := by decide +kernel
theorem dX0_follows_9 : decode cX0_follows 9 = .ok (.iload_n 1, 1) := by decide +kernel
theorem dX0_follows_10 : decode cX0_follows 10 = .ok (.iconst 1, 1) := by decide +kernel
theorem dX0_follows_11 : decode cX0_follows 11 = .ok (.isub, 1) := by decide +kernel
theorem dX0_follows_12 : decode cX0_follows 12 = .ok (.invokevirtual 154, 3) := by decide +kernel
theorem dX0_follows_15 : decode cX0_follows 15 = .ok (.ifCond .eq 7, 3) := by decide +kernel
theorem dX0_follows_18 : decode cX0_follows 18 = .ok (.iconst 1, 1) := by decide +kernel
theorem dX0_follows_19 : decode cX0_follows 19 = .ok (.goto 4, 3) := by decide +kernel
theorem dX0_follows_22 : decode cX0_follows 22 = .ok (.iconst 0, 1) := by decide +kernel
theorem dX0_follows_23 : decode cX0_follows 23 = .ok (.ireturn, 1) := by decide +kernel
set_option maxRecDepth 20000 in
theorem ggX0_stepsGone_X0_follows : GoodIn wsX0_stepsGone wsX0_follows := goodIn_r _ [9, 10, 11, 12, 8, 13, 14, 15, 16, 17, 18, 19, 20, 21, 22, 23, 24, 25, 26, 27, 28, 29] (by decide +kernel) (by decide +kernel)
set_option maxRecDepth 20000 in
theorem gX0_stepsGone_X0_follows : GoodIn wsX0_stepsGone (wsV RX0 161 RX0 yX0_follows wsX0_follows) := goodIn_app (goodIn_of _ (by decide +kernel)) ggX0_stepsGone_X0_follows
set_option maxRecDepth 20000 in
theorem ggX0_stepsGone_X0_noteAt : GoodIn wsX0_stepsGone wsX0_noteAt := goodIn_r _ [22, 23, 24, 25, 26, 27, 28, 29] (by decide +kernel) (by decide +kernel)
set_option maxRecDepth 20000 in
theorem gX0_stepsGone_X0_noteAt : GoodIn wsX0_stepsGone (wsV RX0 99 RX0 yX0_noteAt wsX0_noteAt) := goodIn_app (goodIn_of _ (by decide +kernel)) ggX0_stepsGone_X0_noteAt
theorem dX0_stepsGone_0 : decode cX0_stepsGone 0 = .ok (.aload_n 0, 1) := by decide +kernel
theorem dX0_stepsGone_1 : decode cX0_stepsGone 1 = .ok (.iload_n 1, 1) := by decide +kernel
theorem dX0_stepsGone_2 : decode cX0_stepsGone 2 = .ok (.invokevirtual 161, 3) := by decide +kernel
theorem dX0_stepsGone_5 : decode cX0_stepsGone 5 = .ok (.ifCond .ne 5, 3) := by decide +kernel
theorem dX0_stepsGone_8 : decode cX0_stepsGone 8 = .ok (.iconst 0, 1) := by decide +kernel
theorem dX0_stepsGone_9 : decode cX0_stepsGone 9 = .ok (.ireturn, 1) := by decide +kernel
theorem dX0_stepsGone_10 : decode cX0_stepsGone 10 = .ok (.iconst 0, 1) := by decide +kernel
theorem dX0_stepsGone_11 : decode cX0_stepsGone 11 = .ok (.istore_n 2, 1) := by decide +kernel
theorem dX0_stepsGone_12 : decode cX0_stepsGone 12 = .ok (.iconst 1, 1) := by decide +kernel
theorem dX0_stepsGone_13 : decode cX0_stepsGone 13 = .ok (.istore_n 3, 1) := by decide +kernel
theorem dX0_stepsGone_14 : decode cX0_stepsGone 14 = .ok (.iload_n 3, 1) := by decide +kernel
theorem dX0_stepsGone_15 : decode cX0_stepsGone 15 = .ok (.iconst 3, 1) := by decide +kernel
theorem dX0_stepsGone_16 : decode cX0_stepsGone 16 = .ok (.if_icmp .gt 30, 3) := by decide +kernel
theorem dX0_stepsGone_19 : decode cX0_stepsGone 19 = .ok (.iload_n 2, 1) := by decide +kernel
theorem dX0_stepsGone_20 : decode cX0_stepsGone 20 = .ok (.aload_n 0, 1) := by decide +kernel
theorem dX0_stepsGone_21 : decode cX0_stepsGone 21 = .ok (.iload_n 1, 1) := by decide +kernel
theorem dX0_stepsGone_22 : decode cX0_stepsGone 22 = .ok (.iload_n 3, 1) := by decide +kernel
theorem dX0_stepsGone_23 : decode cX0_stepsGone 23 = .ok (.invokevirtual 99, 3) := by decide +kernel
theorem dX0_stepsGone_26 : decode cX0_stepsGone 26 = .ok (.aload_n 0, 1) := by decide +kernel
theorem dX0_stepsGone_27 : decode cX0_stepsGone 27 = .ok (.iload_n 1, 1) := by decide +kernel
theorem dX0_stepsGone_28 : decode cX0_stepsGone 28 = .ok (.iconst 1, 1) := by decide +kernel
theorem dX0_stepsGone_29 : decode cX0_stepsGone 29 = .ok (.isub, 1) := by decide +kernel
theorem dX0_stepsGone_30 : decode cX0_stepsGone 30 = .ok (.iload_n 3, 1) := by decide +kernel
theorem dX0_stepsGone_31 : decode cX0_stepsGone 31 = .ok (.invokevirtual 99, 3) := by decide +kernel
theorem dX0_stepsGone_34 : decode cX0_stepsGone 34 = .ok (.isub, 1) := by decide +kernel
theorem dX0_stepsGone_35 : decode cX0_stepsGone 35 = .ok (.invokestatic 164, 3) := by decide +kernel
theorem dX0_stepsGone_38 : decode cX0_stepsGone 38 = .ok (.iadd, 1) := by decide +kernel
theorem dX0_stepsGone_39 : decode cX0_stepsGone 39 = .ok (.istore_n 2, 1) := by decide +kernel
theorem dX0_stepsGone_40 : decode cX0_stepsGone 40 = .ok (.iinc 3 1, 3) := by decide +kernel
theorem dX0_stepsGone_43 : decode cX0_stepsGone 43 = .ok (.goto (-29), 3) := by decide +kernel
theorem dX0_stepsGone_46 : decode cX0_stepsGone 46 = .ok (.iload_n 2, 1) := by decide +kernel
theorem dX0_stepsGone_47 : decode cX0_stepsGone 47 = .ok (.ireturn, 1) := by decide +kernel
set_option maxRecDepth 20000 in
theorem ggX0_costOf_X0_isSet : GoodIn wsX0_costOf wsX0_isSet := goodIn_r _ [6, 7, 8, 9, 5, 10, 11, 12, 13, 14, 15, 16, 77, 78, 79, 80, 81, 82] (by decide +kernel) (by decide +kernel)
set_option maxRecDepth 20000 in
theorem gX0_costOf_X0_isSet : GoodIn wsX0_costOf (wsV RX0 154 RX0 yX0_isSet wsX0_isSet) := goodIn_app (goodIn_of _ (by decide +kernel)) ggX0_costOf_X0_isSet
set_option maxRecDepth 20000 in
theorem ggX0_costOf_X0_isRight : GoodIn wsX0_costOf wsX0_isRight := goodIn_r _ [20, 2, 3, 4, 5, 6, 7, 8, 9, 10, 11, 12, 13, 14, 15, 16, 21, 22, 23, 24, 25, 26, 27, 28, 29, 77, 78, 79, 80, 81, 82] (by decide +kernel) (by decide +kernel)
set_option maxRecDepth 20000 in
theorem gX0_costOf_X0_isRight : GoodIn wsX0_costOf (wsV RX0 169 RX0 yX0_isRight wsX0_isRight) := goodIn_app (goodIn_of _ (by decide +kernel)) ggX0_costOf_X0_isRight
set_option maxRecDepth 20000 in
theorem ggX0_costOf_X0_stepsGone : GoodIn wsX0_costOf wsX0_stepsGone := goodIn_r _ [33, 34, 35, 36, 37, 38, 39, 40, 5, 41, 2, 3, 4, 6, 7, 8, 9, 10, 11, 12, 13, 14, 15, 16, 77, 78, 79, 80, 81, 82] (by decide +kernel) (by decide +kernel)
set_option maxRecDepth 20000 in
theorem gX0_costOf_X0_stepsGone : GoodIn wsX0_costOf (wsV RX0 172 RX0 yX0_stepsGone wsX0_stepsGone) := goodIn_app (goodIn_of _ (by decide +kernel)) ggX0_costOf_X0_stepsGone
set_option maxRecDepth 20000 in
theorem ggX0_costOf_X0_faultsOf : GoodIn wsX0_costOf wsX0_faultsOf := goodIn_r _ [45, 38, 39, 40, 5, 41, 2, 3, 4, 6, 7, 8, 9, 10, 11, 12, 13, 14, 15, 16, 46, 47, 48, 49, 50, 51, 52, 53, 54, 55, 56, 57, 58, 59, 60, 61, 62, 63, 64, 65, 66, 67, 68, 69, 70, 71, 72, 73, 74, 75, 76, 26, 27, 28, 29, 77, 78, 79, 80, 81, 82] (by decide +kernel) (by decide +kernel)
set_option maxRecDepth 20000 in
theorem gX0_costOf_X0_faultsOf : GoodIn wsX0_costOf (wsV RX0 110 RX0 yX0_faultsOf wsX0_faultsOf) := goodIn_app (goodIn_of _ (by decide +kernel)) ggX0_costOf_X0_faultsOf
theorem dX0_costOf_0 : decode cX0_costOf 0 = .ok (.aload_n 0, 1) := by decide +kernel
theorem dX0_costOf_1 : decode cX0_costOf 1 = .ok (.iload_n 1, 1) := by decide +kernel
theorem dX0_costOf_2 : decode cX0_costOf 2 = .ok (.invokevirtual 154, 3) := by decide +kernel
theorem dX0_costOf_5 : decode cX0_costOf 5 = .ok (.ifCond .ne 5, 3) := by decide +kernel
theorem dX0_costOf_8 : decode cX0_costOf 8 = .ok (.iconst 0, 1) := by decide +kernel
theorem dX0_costOf_9 : decode cX0_costOf 9 = .ok (.ireturn, 1) := by decide +kernel
theorem dX0_costOf_10 : decode cX0_costOf 10 = .ok (.aload_n 0, 1) := by decide +kernel
theorem dX0_costOf_11 : decode cX0_costOf 11 = .ok (.iload_n 1, 1) := by decide +kernel
theorem dX0_costOf_12 : decode cX0_costOf 12 = .ok (.invokevirtual 169, 3) := by decide +kernel
theorem dX0_costOf_15 : decode cX0_costOf 15 = .ok (.ifCond .eq 7, 3) := by decide +kernel
theorem dX0_costOf_18 : decode cX0_costOf 18 = .ok (.iconst 0, 1) := by decide +kernel
theorem dX0_costOf_19 : decode cX0_costOf 19 = .ok (.goto 5, 3) := by decide +kernel
theorem dX0_costOf_22 : decode cX0_costOf 22 = .ok (.bipush 30, 2) := by decide +kernel
theorem dX0_costOf_24 : decode cX0_costOf 24 = .ok (.istore_n 2, 1) := by decide +kernel
theorem dX0_costOf_25 : decode cX0_costOf 25 = .ok (.iload_n 2, 1) := by decide +kernel
theorem dX0_costOf_26 : decode cX0_costOf 26 = .ok (.aload_n 0, 1) := by decide +kernel
theorem dX0_costOf_27 : decode cX0_costOf 27 = .ok (.iload_n 1, 1) := by decide +kernel
theorem dX0_costOf_28 : decode cX0_costOf 28 = .ok (.invokevirtual 172, 3) := by decide +kernel
theorem dX0_costOf_31 : decode cX0_costOf 31 = .ok (.iadd, 1) := by decide +kernel
theorem dX0_costOf_32 : decode cX0_costOf 32 = .ok (.istore_n 2, 1) := by decide +kernel
theorem dX0_costOf_33 : decode cX0_costOf 33 = .ok (.iconst 0, 1) := by decide +kernel
theorem dX0_costOf_34 : decode cX0_costOf 34 = .ok (.istore_n 3, 1) := by decide +kernel
theorem dX0_costOf_35 : decode cX0_costOf 35 = .ok (.iload_n 3, 1) := by decide +kernel
theorem dX0_costOf_36 : decode cX0_costOf 36 = .ok (.bipush 8, 2) := by decide +kernel
theorem dX0_costOf_38 : decode cX0_costOf 38 = .ok (.if_icmp .ge 25, 3) := by decide +kernel
theorem dX0_costOf_41 : decode cX0_costOf 41 = .ok (.iload_n 2, 1) := by decide +kernel
theorem dX0_costOf_42 : decode cX0_costOf 42 = .ok (.aload_n 0, 1) := by decide +kernel
theorem dX0_costOf_43 : decode cX0_costOf 43 = .ok (.getfield 24, 3) := by decide +kernel
theorem dX0_costOf_46 : decode cX0_costOf 46 = .ok (.iload_n 3, 1) := by decide +kernel
theorem dX0_costOf_47 : decode cX0_costOf 47 = .ok (.iaload, 1) := by decide +kernel
theorem dX0_costOf_48 : decode cX0_costOf 48 = .ok (.aload_n 0, 1) := by decide +kernel
theorem dX0_costOf_49 : decode cX0_costOf 49 = .ok (.iload_n 1, 1) := by decide +kernel
theorem dX0_costOf_50 : decode cX0_costOf 50 = .ok (.iload_n 3, 1) := by decide +kernel
theorem dX0_costOf_51 : decode cX0_costOf 51 = .ok (.invokevirtual 110, 3) := by decide +kernel
theorem dX0_costOf_54 : decode cX0_costOf 54 = .ok (.imul, 1) := by decide +kernel
theorem dX0_costOf_55 : decode cX0_costOf 55 = .ok (.iadd, 1) := by decide +kernel
theorem dX0_costOf_56 : decode cX0_costOf 56 = .ok (.istore_n 2, 1) := by decide +kernel
theorem dX0_costOf_57 : decode cX0_costOf 57 = .ok (.iinc 3 1, 3) := by decide +kernel
theorem dX0_costOf_60 : decode cX0_costOf 60 = .ok (.goto (-25), 3) := by decide +kernel
theorem dX0_costOf_63 : decode cX0_costOf 63 = .ok (.iload_n 2, 1) := by decide +kernel
theorem dX0_costOf_64 : decode cX0_costOf 64 = .ok (.ireturn, 1) := by decide +kernel
set_option maxRecDepth 20000 in
theorem ggX0_faultsOf_X0_follows : GoodIn wsX0_faultsOf wsX0_follows := goodIn_r _ [5, 6, 7, 8, 4, 9, 10, 11, 12, 13, 14, 15, 16, 17, 18, 19, 55, 56, 57, 58, 59, 60] (by decide +kernel) (by decide +kernel)
set_option maxRecDepth 20000 in
theorem gX0_faultsOf_X0_follows : GoodIn wsX0_faultsOf (wsV RX0 161 RX0 yX0_follows wsX0_follows) := goodIn_app (goodIn_of _ (by decide +kernel)) ggX0_faultsOf_X0_follows
set_option maxRecDepth 20000 in
theorem ggX0_faultsOf_X0_parallels : GoodIn wsX0_faultsOf wsX0_parallels := goodIn_r _ [23, 24, 25, 26, 4, 27, 15, 16, 17, 18, 19, 28, 29, 30, 31, 32, 33, 34, 35, 36, 37, 38, 55, 56, 57, 58, 59, 60] (by decide +kernel) (by decide +kernel)
set_option maxRecDepth 20000 in
theorem gX0_faultsOf_X0_parallels : GoodIn wsX0_faultsOf (wsV RX0 175 RX0 yX0_parallels wsX0_parallels) := goodIn_app (goodIn_of _ (by decide +kernel)) ggX0_faultsOf_X0_parallels
set_option maxRecDepth 20000 in
theorem ggX0_faultsOf_X0_isHidden : GoodIn wsX0_faultsOf wsX0_isHidden := goodIn_r _ [42, 15, 16, 17, 4, 18, 19, 28, 29, 30, 31, 32, 33, 34, 35, 36, 37, 38, 55, 56, 57, 58, 59, 60] (by decide +kernel) (by decide +kernel)
set_option maxRecDepth 20000 in
theorem gX0_faultsOf_X0_isHidden : GoodIn wsX0_faultsOf (wsV RX0 178 RX0 yX0_isHidden wsX0_isHidden) := goodIn_app (goodIn_of _ (by decide +kernel)) ggX0_faultsOf_X0_isHidden
set_option maxRecDepth 20000 in
theorem ggX0_faultsOf_X0_voicesAtFault : GoodIn wsX0_faultsOf wsX0_voicesAtFault := goodIn_r _ [46, 47, 48, 49, 4, 50, 51, 15, 16, 17, 18, 19, 52, 53, 54, 55, 56, 57, 58, 59, 60] (by decide +kernel) (by decide +kernel)
set_option maxRecDepth 20000 in
theorem gX0_faultsOf_X0_voicesAtFault : GoodIn wsX0_faultsOf (wsV RX0 181 RX0 yX0_voicesAtFault wsX0_voicesAtFault) := goodIn_app (goodIn_of _ (by decide +kernel)) ggX0_faultsOf_X0_voicesAtFault
theorem dX0_faultsOf_0 : decode cX0_faultsOf 0 = .ok (.aload_n 0, 1) := by decide +kernel
theorem dX0_faultsOf_1 : decode cX0_faultsOf 1 = .ok (.iload_n 1, 1) := by decide +kernel
theorem dX0_faultsOf_2 : decode cX0_faultsOf 2 = .ok (.invokevirtual 161, 3) := by decide +kernel
theorem dX0_faultsOf_5 : decode cX0_faultsOf 5 = .ok (.ifCond .ne 5, 3) := by decide +kernel
theorem dX0_faultsOf_8 : decode cX0_faultsOf 8 = .ok (.iconst 0, 1) := by decide +kernel
theorem dX0_faultsOf_9 : decode cX0_faultsOf 9 = .ok (.ireturn, 1) := by decide +kernel
theorem dX0_faultsOf_10 : decode cX0_faultsOf 10 = .ok (.iload_n 2, 1) := by decide +kernel
theorem dX0_faultsOf_11 : decode cX0_faultsOf 11 = .ok (.tableswitch 54 0 2 #[25, 33, 40], 25) := by decide +kernel
theorem dX0_faultsOf_36 : decode cX0_faultsOf 36 = .ok (.aload_n 0, 1) := by decide +kernel
theorem dX0_faultsOf_37 : decode cX0_faultsOf 37 = .ok (.iload_n 1, 1) := by decide +kernel
theorem dX0_faultsOf_38 : decode cX0_faultsOf 38 = .ok (.bipush 7, 2) := by decide +kernel
theorem dX0_faultsOf_40 : decode cX0_faultsOf 40 = .ok (.invokevirtual 175, 3) := by decide +kernel
theorem dX0_faultsOf_43 : decode cX0_faultsOf 43 = .ok (.ireturn, 1) := by decide +kernel
theorem dX0_faultsOf_44 : decode cX0_faultsOf 44 = .ok (.aload_n 0, 1) := by decide +kernel
theorem dX0_faultsOf_45 : decode cX0_faultsOf 45 = .ok (.iload_n 1, 1) := by decide +kernel
theorem dX0_faultsOf_46 : decode cX0_faultsOf 46 = .ok (.iconst 0, 1) := by decide +kernel
theorem dX0_faultsOf_47 : decode cX0_faultsOf 47 = .ok (.invokevirtual 175, 3) := by decide +kernel
theorem dX0_faultsOf_50 : decode cX0_faultsOf 50 = .ok (.ireturn, 1) := by decide +kernel
theorem dX0_faultsOf_51 : decode cX0_faultsOf 51 = .ok (.aload_n 0, 1) := by decide +kernel
theorem dX0_faultsOf_52 : decode cX0_faultsOf 52 = .ok (.iload_n 1, 1) := by decide +kernel
theorem dX0_faultsOf_53 : decode cX0_faultsOf 53 = .ok (.invokevirtual 178, 3) := by decide +kernel
theorem dX0_faultsOf_56 : decode cX0_faultsOf 56 = .ok (.ifCond .eq 7, 3) := by decide +kernel
theorem dX0_faultsOf_59 : decode cX0_faultsOf 59 = .ok (.iconst 1, 1) := by decide +kernel
theorem dX0_faultsOf_60 : decode cX0_faultsOf 60 = .ok (.goto 4, 3) := by decide +kernel
theorem dX0_faultsOf_63 : decode cX0_faultsOf 63 = .ok (.iconst 0, 1) := by decide +kernel
theorem dX0_faultsOf_64 : decode cX0_faultsOf 64 = .ok (.ireturn, 1) := by decide +kernel
theorem dX0_faultsOf_65 : decode cX0_faultsOf 65 = .ok (.aload_n 0, 1) := by decide +kernel
theorem dX0_faultsOf_66 : decode cX0_faultsOf 66 = .ok (.iload_n 1, 1) := by decide +kernel
theorem dX0_faultsOf_67 : decode cX0_faultsOf 67 = .ok (.iload_n 2, 1) := by decide +kernel
theorem dX0_faultsOf_68 : decode cX0_faultsOf 68 = .ok (.invokevirtual 181, 3) := by decide +kernel
theorem dX0_faultsOf_71 : decode cX0_faultsOf 71 = .ok (.ireturn, 1) := by decide +kernel
set_option maxRecDepth 20000 in
theorem ggX0_parallels_X0_moves : GoodIn wsX0_parallels wsX0_moves := goodIn_r _ [5, 6, 7, 8, 4, 9, 10, 22, 23, 24, 25, 26, 27] (by decide +kernel) (by decide +kernel)
set_option maxRecDepth 20000 in
theorem gX0_parallels_X0_moves : GoodIn wsX0_parallels (wsV RX0 184 RX0 yX0_moves wsX0_moves) := goodIn_app (goodIn_of _ (by decide +kernel)) ggX0_parallels_X0_moves
set_option maxRecDepth 20000 in
theorem ggX0_parallels_X0_isInterval : GoodIn wsX0_parallels wsX0_isInterval := goodIn_r _ [14, 6, 7, 8, 4, 9, 10, 15, 16, 17, 18, 19, 20, 21, 22, 23, 24, 25, 26, 27] (by decide +kernel) (by decide +kernel)
set_option maxRecDepth 20000 in
theorem gX0_parallels_X0_isInterval : GoodIn wsX0_parallels (wsV RX0 187 RX0 yX0_isInterval wsX0_isInterval) := goodIn_app (goodIn_of _ (by decide +kernel)) ggX0_parallels_X0_isInterval
theorem dX0_parallels_0 : decode cX0_parallels 0 = .ok (.iconst 0, 1) := by decide +kernel
theorem dX0_parallels_1 : decode cX0_parallels 1 = .ok (.istore_n 3, 1) := by decide +kernel
theorem dX0_parallels_2 : decode cX0_parallels 2 = .ok (.iconst 0, 1) := by decide +kernel
theorem dX0_parallels_3 : decode cX0_parallels 3 = .ok (.istore 4, 2) := by decide +kernel
theorem dX0_parallels_5 : decode cX0_parallels 5 = .ok (.iload 4, 2) := by decide +kernel
theorem dX0_parallels_7 : decode cX0_parallels 7 = .ok (.iconst 3, 1) := by decide +kernel
theorem dX0_parallels_8 : decode cX0_parallels 8 = .ok (.if_icmp .ge 78, 3) := by decide +kernel
theorem dX0_parallels_11 : decode cX0_parallels 11 = .ok (.iload 4, 2) := by decide +kernel
theorem dX0_parallels_13 : decode cX0_parallels 13 = .ok (.iconst 1, 1) := by decide +kernel
theorem dX0_parallels_14 : decode cX0_parallels 14 = .ok (.iadd, 1) := by decide +kernel
theorem dX0_parallels_15 : decode cX0_parallels 15 = .ok (.istore 5, 2) := by decide +kernel
theorem dX0_parallels_17 : decode cX0_parallels 17 = .ok (.iload 5, 2) := by decide +kernel
theorem dX0_parallels_19 : decode cX0_parallels 19 = .ok (.iconst 3, 1) := by decide +kernel
theorem dX0_parallels_20 : decode cX0_parallels 20 = .ok (.if_icmp .gt 60, 3) := by decide +kernel
theorem dX0_parallels_23 : decode cX0_parallels 23 = .ok (.aload_n 0, 1) := by decide +kernel
theorem dX0_parallels_24 : decode cX0_parallels 24 = .ok (.iload_n 1, 1) := by decide +kernel
theorem dX0_parallels_25 : decode cX0_parallels 25 = .ok (.iload 4, 2) := by decide +kernel
theorem dX0_parallels_27 : decode cX0_parallels 27 = .ok (.invokevirtual 184, 3) := by decide +kernel
theorem dX0_parallels_30 : decode cX0_parallels 30 = .ok (.ifCond .eq 44, 3) := by decide +kernel
theorem dX0_parallels_33 : decode cX0_parallels 33 = .ok (.aload_n 0, 1) := by decide +kernel
theorem dX0_parallels_34 : decode cX0_parallels 34 = .ok (.iload_n 1, 1) := by decide +kernel
theorem dX0_parallels_35 : decode cX0_parallels 35 = .ok (.iload 5, 2) := by decide +kernel
theorem dX0_parallels_37 : decode cX0_parallels 37 = .ok (.invokevirtual 184, 3) := by decide +kernel
theorem dX0_parallels_40 : decode cX0_parallels 40 = .ok (.ifCond .eq 34, 3) := by decide +kernel
theorem dX0_parallels_43 : decode cX0_parallels 43 = .ok (.aload_n 0, 1) := by decide +kernel
theorem dX0_parallels_44 : decode cX0_parallels 44 = .ok (.iload_n 1, 1) := by decide +kernel
theorem dX0_parallels_45 : decode cX0_parallels 45 = .ok (.iload 4, 2) := by decide +kernel
theorem dX0_parallels_47 : decode cX0_parallels 47 = .ok (.iload 5, 2) := by decide +kernel
theorem dX0_parallels_49 : decode cX0_parallels 49 = .ok (.iload_n 2, 1) := by decide +kernel
theorem dX0_parallels_50 : decode cX0_parallels 50 = .ok (.invokevirtual 187, 3) := by decide +kernel
theorem dX0_parallels_53 : decode cX0_parallels 53 = .ok (.ifCond .eq 21, 3) := by decide +kernel
theorem dX0_parallels_56 : decode cX0_parallels 56 = .ok (.aload_n 0, 1) := by decide +kernel
theorem dX0_parallels_57 : decode cX0_parallels 57 = .ok (.iload_n 1, 1) := by decide +kernel
theorem dX0_parallels_58 : decode cX0_parallels 58 = .ok (.iconst 1, 1) := by decide +kernel
theorem dX0_parallels_59 : decode cX0_parallels 59 = .ok (.isub, 1) := by decide +kernel
theorem dX0_parallels_60 : decode cX0_parallels 60 = .ok (.iload 4, 2) := by decide +kernel
theorem dX0_parallels_62 : decode cX0_parallels 62 = .ok (.iload 5, 2) := by decide +kernel
theorem dX0_parallels_64 : decode cX0_parallels 64 = .ok (.iload_n 2, 1) := by decide +kernel
theorem dX0_parallels_65 : decode cX0_parallels 65 = .ok (.invokevirtual 187, 3) := by decide +kernel
theorem dX0_parallels_68 : decode cX0_parallels 68 = .ok (.ifCond .eq 6, 3) := by decide +kernel
theorem dX0_parallels_71 : decode cX0_parallels 71 = .ok (.iinc 3 1, 3) := by decide +kernel
theorem dX0_parallels_74 : decode cX0_parallels 74 = .ok (.iinc 5 1, 3) := by decide +kernel
theorem dX0_parallels_77 : decode cX0_parallels 77 = .ok (.goto (-60), 3) := by decide +kernel
theorem dX0_parallels_80 : decode cX0_parallels 80 = .ok (.iinc 4 1, 3) := by decide +kernel
theorem dX0_parallels_83 : decode cX0_parallels 83 = .ok (.goto (-78), 3) := by decide +kernel
theorem dX0_parallels_86 : decode cX0_parallels 86 = .ok (.iload_n 3, 1) := by decide +kernel
theorem dX0_parallels_87 : decode cX0_parallels 87 = .ok (.ireturn, 1) := by decide +kernel
set_option maxRecDepth 20000 in
theorem ggX0_isInterval_X0_noteAt : GoodIn wsX0_isInterval wsX0_noteAt := goodIn_r _ [5, 6, 14, 15, 16, 17, 18, 19] (by decide +kernel) (by decide +kernel)
set_option maxRecDepth 20000 in
theorem gX0_isInterval_X0_noteAt : GoodIn wsX0_isInterval (wsV RX0 99 RX0 yX0_noteAt wsX0_noteAt) := goodIn_app (goodIn_of _ (by decide +kernel)) ggX0_isInterval_X0_noteAt
set_option maxRecDepth 20000 in
theorem ggX0_isInterval_X0_pitchOf : GoodIn wsX0_isInterval wsX0_pitchOf := goodIn_r _ [10, 11, 12, 13, 14, 15, 16, 17, 18, 19] (by decide +kernel) (by decide +kernel)
set_option maxRecDepth 20000 in
theorem gX0_isInterval_X0_pitchOf : GoodIn wsX0_isInterval (wsV RX0 123 RX0 yX0_pitchOf wsX0_pitchOf) := goodIn_app (goodIn_of _ (by decide +kernel)) ggX0_isInterval_X0_pitchOf
theorem dX0_isInterval_0 : decode cX0_isInterval 0 = .ok (.aload_n 0, 1) := by decide +kernel
theorem dX0_isInterval_1 : decode cX0_isInterval 1 = .ok (.aload_n 0, 1) := by decide +kernel
theorem dX0_isInterval_2 : decode cX0_isInterval 2 = .ok (.iload_n 1, 1) := by decide +kernel
theorem dX0_isInterval_3 : decode cX0_isInterval 3 = .ok (.iload_n 3, 1) := by decide +kernel
theorem dX0_isInterval_4 : decode cX0_isInterval 4 = .ok (.invokevirtual 99, 3) := by decide +kernel
theorem dX0_isInterval_7 : decode cX0_isInterval 7 = .ok (.invokevirtual 123, 3) := by decide +kernel
theorem dX0_isInterval_10 : decode cX0_isInterval 10 = .ok (.aload_n 0, 1) := by decide +kernel
theorem dX0_isInterval_11 : decode cX0_isInterval 11 = .ok (.aload_n 0, 1) := by decide +kernel
theorem dX0_isInterval_12 : decode cX0_isInterval 12 = .ok (.iload_n 1, 1) := by decide +kernel
theorem dX0_isInterval_13 : decode cX0_isInterval 13 = .ok (.iload_n 2, 1) := by decide +kernel
theorem dX0_isInterval_14 : decode cX0_isInterval 14 = .ok (.invokevirtual 99, 3) := by decide +kernel
theorem dX0_isInterval_17 : decode cX0_isInterval 17 = .ok (.invokevirtual 123, 3) := by decide +kernel
theorem dX0_isInterval_20 : decode cX0_isInterval 20 = .ok (.isub, 1) := by decide +kernel
theorem dX0_isInterval_21 : decode cX0_isInterval 21 = .ok (.istore 5, 2) := by decide +kernel
theorem dX0_isInterval_23 : decode cX0_isInterval 23 = .ok (.iload 5, 2) := by decide +kernel
theorem dX0_isInterval_25 : decode cX0_isInterval 25 = .ok (.bipush 12, 2) := by decide +kernel
theorem dX0_isInterval_27 : decode cX0_isInterval 27 = .ok (.irem, 1) := by decide +kernel
theorem dX0_isInterval_28 : decode cX0_isInterval 28 = .ok (.iload 4, 2) := by decide +kernel
theorem dX0_isInterval_30 : decode cX0_isInterval 30 = .ok (.if_icmp .ne 7, 3) := by decide +kernel
theorem dX0_isInterval_33 : decode cX0_isInterval 33 = .ok (.iconst 1, 1) := by decide +kernel
theorem dX0_isInterval_34 : decode cX0_isInterval 34 = .ok (.goto 4, 3) := by decide +kernel
theorem dX0_isInterval_37 : decode cX0_isInterval 37 = .ok (.iconst 0, 1) := by decide +kernel
theorem dX0_isInterval_38 : decode cX0_isInterval 38 = .ok (.ireturn, 1) := by decide +kernel
set_option maxRecDepth 20000 in
theorem ggX0_isHidden_X0_noteAt : GoodIn wsX0_isHidden wsX0_noteAt := goodIn_r _ [5, 6, 18, 19, 20, 21, 22, 23] (by decide +kernel) (by decide +kernel)
set_option maxRecDepth 20000 in
theorem gX0_isHidden_X0_noteAt : GoodIn wsX0_isHidden (wsV RX0 99 RX0 yX0_noteAt wsX0_noteAt) := goodIn_app (goodIn_of _ (by decide +kernel)) ggX0_isHidden_X0_noteAt
set_option maxRecDepth 20000 in
theorem ggX0_isHidden_X0_isInterval : GoodIn wsX0_isHidden wsX0_isInterval := goodIn_r _ [10, 1, 2, 3, 4, 5, 6, 11, 12, 13, 14, 15, 16, 17, 18, 19, 20, 21, 22, 23] (by decide +kernel) (by decide +kernel)
set_option maxRecDepth 20000 in
theorem gX0_isHidden_X0_isInterval : GoodIn wsX0_isHidden (wsV RX0 187 RX0 yX0_isInterval wsX0_isInterval) := goodIn_app (goodIn_of _ (by decide +kernel)) ggX0_isHidden_X0_isInterval
theorem dX0_isHidden_0 : decode cX0_isHidden 0 = .ok (.aload_n 0, 1) := by decide +kernel
theorem dX0_isHidden_1 : decode cX0_isHidden 1 = .ok (.iload_n 1, 1) := by decide +kernel
theorem dX0_isHidden_2 : decode cX0_isHidden 2 = .ok (.iconst 0, 1) := by decide +kernel
theorem dX0_isHidden_3 : decode cX0_isHidden 3 = .ok (.invokevirtual 99, 3) := by decide +kernel
theorem dX0_isHidden_6 : decode cX0_isHidden 6 = .ok (.aload_n 0, 1) := by decide +kernel
theorem dX0_isHidden_7 : decode cX0_isHidden 7 = .ok (.iload_n 1, 1) := by decide +kernel
theorem dX0_isHidden_8 : decode cX0_isHidden 8 = .ok (.iconst 1, 1) := by decide +kernel
theorem dX0_isHidden_9 : decode cX0_isHidden 9 = .ok (.isub, 1) := by decide +kernel
theorem dX0_isHidden_10 : decode cX0_isHidden 10 = .ok (.iconst 0, 1) := by decide +kernel
theorem dX0_isHidden_11 : decode cX0_isHidden 11 = .ok (.invokevirtual 99, 3) := by decide +kernel
theorem dX0_isHidden_14 : decode cX0_isHidden 14 = .ok (.isub, 1) := by decide +kernel
theorem dX0_isHidden_15 : decode cX0_isHidden 15 = .ok (.istore_n 2, 1) := by decide +kernel
theorem dX0_isHidden_16 : decode cX0_isHidden 16 = .ok (.aload_n 0, 1) := by decide +kernel
theorem dX0_isHidden_17 : decode cX0_isHidden 17 = .ok (.iload_n 1, 1) := by decide +kernel
theorem dX0_isHidden_18 : decode cX0_isHidden 18 = .ok (.iconst 3, 1) := by decide +kernel
theorem dX0_isHidden_19 : decode cX0_isHidden 19 = .ok (.invokevirtual 99, 3) := by decide +kernel
theorem dX0_isHidden_22 : decode cX0_isHidden 22 = .ok (.aload_n 0, 1) := by decide +kernel
theorem dX0_isHidden_23 : decode cX0_isHidden 23 = .ok (.iload_n 1, 1) := by decide +kernel
theorem dX0_isHidden_24 : decode cX0_isHidden 24 = .ok (.iconst 1, 1) := by decide +kernel
theorem dX0_isHidden_25 : decode cX0_isHidden 25 = .ok (.isub, 1) := by decide +kernel
theorem dX0_isHidden_26 : decode cX0_isHidden 26 = .ok (.iconst 3, 1) := by decide +kernel
theorem dX0_isHidden_27 : decode cX0_isHidden 27 = .ok (.invokevirtual 99, 3) := by decide +kernel
theorem dX0_isHidden_30 : decode cX0_isHidden 30 = .ok (.isub, 1) := by decide +kernel
theorem dX0_isHidden_31 : decode cX0_isHidden 31 = .ok (.istore_n 3, 1) := by decide +kernel
theorem dX0_isHidden_32 : decode cX0_isHidden 32 = .ok (.iload_n 2, 1) := by decide +kernel
theorem dX0_isHidden_33 : decode cX0_isHidden 33 = .ok (.ifCond .le 12, 3) := by decide +kernel
theorem dX0_isHidden_36 : decode cX0_isHidden 36 = .ok (.iload_n 3, 1) := by decide +kernel
theorem dX0_isHidden_37 : decode cX0_isHidden 37 = .ok (.iconst 2, 1) := by decide +kernel
theorem dX0_isHidden_38 : decode cX0_isHidden 38 = .ok (.if_icmp .lt 7, 3) := by decide +kernel
theorem dX0_isHidden_41 : decode cX0_isHidden 41 = .ok (.iconst 1, 1) := by decide +kernel
theorem dX0_isHidden_42 : decode cX0_isHidden 42 = .ok (.goto 4, 3) := by decide +kernel
theorem dX0_isHidden_45 : decode cX0_isHidden 45 = .ok (.iconst 0, 1) := by decide +kernel
theorem dX0_isHidden_46 : decode cX0_isHidden 46 = .ok (.istore 4, 2) := by decide +kernel
theorem dX0_isHidden_48 : decode cX0_isHidden 48 = .ok (.iload_n 2, 1) := by decide +kernel
theorem dX0_isHidden_49 : decode cX0_isHidden 49 = .ok (.ifCond .ge 13, 3) := by decide +kernel
theorem dX0_isHidden_52 : decode cX0_isHidden 52 = .ok (.iload_n 3, 1) := by decide +kernel
theorem dX0_isHidden_53 : decode cX0_isHidden 53 = .ok (.bipush (-2), 2) := by decide +kernel
theorem dX0_isHidden_55 : decode cX0_isHidden 55 = .ok (.if_icmp .gt 7, 3) := by decide +kernel
theorem dX0_isHidden_58 : decode cX0_isHidden 58 = .ok (.iconst 1, 1) := by decide +kernel
theorem dX0_isHidden_59 : decode cX0_isHidden 59 = .ok (.goto 4, 3) := by decide +kernel
theorem dX0_isHidden_62 : decode cX0_isHidden 62 = .ok (.iconst 0, 1) := by decide +kernel
theorem dX0_isHidden_63 : decode cX0_isHidden 63 = .ok (.istore 5, 2) := by decide +kernel
theorem dX0_isHidden_65 : decode cX0_isHidden 65 = .ok (.iload 4, 2) := by decide +kernel
theorem dX0_isHidden_67 : decode cX0_isHidden 67 = .ok (.ifCond .ne 10, 3) := by decide +kernel
theorem dX0_isHidden_70 : decode cX0_isHidden 70 = .ok (.iload 5, 2) := by decide +kernel
theorem dX0_isHidden_72 : decode cX0_isHidden 72 = .ok (.ifCond .ne 5, 3) := by decide +kernel
theorem dX0_isHidden_75 : decode cX0_isHidden 75 = .ok (.iconst 0, 1) := by decide +kernel
theorem dX0_isHidden_76 : decode cX0_isHidden 76 = .ok (.ireturn, 1) := by decide +kernel
theorem dX0_isHidden_77 : decode cX0_isHidden 77 = .ok (.aload_n 0, 1) := by decide +kernel
theorem dX0_isHidden_78 : decode cX0_isHidden 78 = .ok (.iload_n 1, 1) := by decide +kernel
theorem dX0_isHidden_79 : decode cX0_isHidden 79 = .ok (.iconst 0, 1) := by decide +kernel
theorem dX0_isHidden_80 : decode cX0_isHidden 80 = .ok (.iconst 3, 1) := by decide +kernel
theorem dX0_isHidden_81 : decode cX0_isHidden 81 = .ok (.bipush 7, 2) := by decide +kernel
theorem dX0_isHidden_83 : decode cX0_isHidden 83 = .ok (.invokevirtual 187, 3) := by decide +kernel
theorem dX0_isHidden_86 : decode cX0_isHidden 86 = .ok (.ifCond .ne 14, 3) := by decide +kernel
theorem dX0_isHidden_89 : decode cX0_isHidden 89 = .ok (.aload_n 0, 1) := by decide +kernel
theorem dX0_isHidden_90 : decode cX0_isHidden 90 = .ok (.iload_n 1, 1) := by decide +kernel
theorem dX0_isHidden_91 : decode cX0_isHidden 91 = .ok (.iconst 0, 1) := by decide +kernel
theorem dX0_isHidden_92 : decode cX0_isHidden 92 = .ok (.iconst 3, 1) := by decide +kernel
theorem dX0_isHidden_93 : decode cX0_isHidden 93 = .ok (.iconst 0, 1) := by decide +kernel
theorem dX0_isHidden_94 : decode cX0_isHidden 94 = .ok (.invokevirtual 187, 3) := by decide +kernel
theorem dX0_isHidden_97 : decode cX0_isHidden 97 = .ok (.ifCond .eq 7, 3) := by decide +kernel
theorem dX0_isHidden_100 : decode cX0_isHidden 100 = .ok (.iconst 1, 1) := by decide +kernel
theorem dX0_isHidden_101 : decode cX0_isHidden 101 = .ok (.goto 4, 3) := by decide +kernel
theorem dX0_isHidden_104 : decode cX0_isHidden 104 = .ok (.iconst 0, 1) := by decide +kernel
theorem dX0_isHidden_105 : decode cX0_isHidden 105 = .ok (.ireturn, 1) := by decide +kernel
set_option maxRecDepth 20000 in
theorem ggX0_voicesAtFault_X0_isAtFault : GoodIn wsX0_voicesAtFault wsX0_isAtFault := goodIn_r _ [5, 6, 7, 8, 9, 4, 10, 11, 12, 13, 14, 15, 16, 17, 18, 19, 20] (by decide +kernel) (by decide +kernel)
set_option maxRecDepth 20000 in
theorem gX0_voicesAtFault_X0_isAtFault : GoodIn wsX0_voicesAtFault (wsV RX0 190 RX0 yX0_isAtFault wsX0_isAtFault) := goodIn_app (goodIn_of _ (by decide +kernel)) ggX0_voicesAtFault_X0_isAtFault
theorem dX0_voicesAtFault_0 : decode cX0_voicesAtFault 0 = .ok (.iconst 0, 1) := by decide +kernel
theorem dX0_voicesAtFault_1 : decode cX0_voicesAtFault 1 = .ok (.istore_n 3, 1) := by decide +kernel
theorem dX0_voicesAtFault_2 : decode cX0_voicesAtFault 2 = .ok (.iconst 1, 1) := by decide +kernel
theorem dX0_voicesAtFault_3 : decode cX0_voicesAtFault 3 = .ok (.istore 4, 2) := by decide +kernel
theorem dX0_voicesAtFault_5 : decode cX0_voicesAtFault 5 = .ok (.iload 4, 2) := by decide +kernel
theorem dX0_voicesAtFault_7 : decode cX0_voicesAtFault 7 = .ok (.iconst 3, 1) := by decide +kernel
theorem dX0_voicesAtFault_8 : decode cX0_voicesAtFault 8 = .ok (.if_icmp .gt 23, 3) := by decide +kernel
theorem dX0_voicesAtFault_11 : decode cX0_voicesAtFault 11 = .ok (.aload_n 0, 1) := by decide +kernel
theorem dX0_voicesAtFault_12 : decode cX0_voicesAtFault 12 = .ok (.iload_n 1, 1) := by decide +kernel
theorem dX0_voicesAtFault_13 : decode cX0_voicesAtFault 13 = .ok (.iload 4, 2) := by decide +kernel
theorem dX0_voicesAtFault_15 : decode cX0_voicesAtFault 15 = .ok (.iload_n 2, 1) := by decide +kernel
theorem dX0_voicesAtFault_16 : decode cX0_voicesAtFault 16 = .ok (.invokevirtual 190, 3) := by decide +kernel
theorem dX0_voicesAtFault_19 : decode cX0_voicesAtFault 19 = .ok (.ifCond .eq 6, 3) := by decide +kernel
theorem dX0_voicesAtFault_22 : decode cX0_voicesAtFault 22 = .ok (.iinc 3 1, 3) := by decide +kernel
theorem dX0_voicesAtFault_25 : decode cX0_voicesAtFault 25 = .ok (.iinc 4 1, 3) := by decide +kernel
theorem dX0_voicesAtFault_28 : decode cX0_voicesAtFault 28 = .ok (.goto (-23), 3) := by decide +kernel
theorem dX0_voicesAtFault_31 : decode cX0_voicesAtFault 31 = .ok (.iload_n 3, 1) := by decide +kernel
theorem dX0_voicesAtFault_32 : decode cX0_voicesAtFault 32 = .ok (.ireturn, 1) := by decide +kernel
set_option maxRecDepth 20000 in
theorem ggX0_isAtFault_X0_noteAt : GoodIn wsX0_isAtFault wsX0_noteAt := goodIn_r _ [6, 7, 11, 12, 13, 14, 15, 16] (by decide +kernel) (by decide +kernel)
set_option maxRecDepth 20000 in
theorem gX0_isAtFault_X0_noteAt : GoodIn wsX0_isAtFault (wsV RX0 99 RX0 yX0_noteAt wsX0_noteAt) := goodIn_app (goodIn_of _ (by decide +kernel)) ggX0_isAtFault_X0_noteAt
set_option maxRecDepth 20000 in
theorem ggX0_isAtFault_X0_stepAbove : GoodIn wsX0_isAtFault wsX0_stepAbove := goodIn_r _ [10] (by decide +kernel) (by decide +kernel)
set_option maxRecDepth 20000 in
theorem gX0_isAtFault_X0_stepAbove : GoodIn wsX0_isAtFault (va_wsS RX0 151 yX0_stepAbove wsX0_stepAbove) := goodIn_app (goodIn_of _ (by decide +kernel)) ggX0_isAtFault_X0_stepAbove
theorem dX0_isAtFault_0 : decode cX0_isAtFault 0 = .ok (.iload_n 1, 1) := by decide +kernel
theorem dX0_isAtFault_1 : decode cX0_isAtFault 1 = .ok (.iconst 1, 1) := by decide +kernel
theorem dX0_isAtFault_2 : decode cX0_isAtFault 2 = .ok (.isub, 1) := by decide +kernel
theorem dX0_isAtFault_3 : decode cX0_isAtFault 3 = .ok (.istore 4, 2) := by decide +kernel
theorem dX0_isAtFault_5 : decode cX0_isAtFault 5 = .ok (.aload_n 0, 1) := by decide +kernel
theorem dX0_isAtFault_6 : decode cX0_isAtFault 6 = .ok (.iload 4, 2) := by decide +kernel
theorem dX0_isAtFault_8 : decode cX0_isAtFault 8 = .ok (.iload_n 2, 1) := by decide +kernel
theorem dX0_isAtFault_9 : decode cX0_isAtFault 9 = .ok (.invokevirtual 99, 3) := by decide +kernel
theorem dX0_isAtFault_12 : decode cX0_isAtFault 12 = .ok (.istore 5, 2) := by decide +kernel
theorem dX0_isAtFault_14 : decode cX0_isAtFault 14 = .ok (.aload_n 0, 1) := by decide +kernel
theorem dX0_isAtFault_15 : decode cX0_isAtFault 15 = .ok (.iload_n 1, 1) := by decide +kernel
theorem dX0_isAtFault_16 : decode cX0_isAtFault 16 = .ok (.iload_n 2, 1) := by decide +kernel
theorem dX0_isAtFault_17 : decode cX0_isAtFault 17 = .ok (.invokevirtual 99, 3) := by decide +kernel
theorem dX0_isAtFault_20 : decode cX0_isAtFault 20 = .ok (.istore 6, 2) := by decide +kernel
theorem dX0_isAtFault_22 : decode cX0_isAtFault 22 = .ok (.iload 6, 2) := by decide +kernel
theorem dX0_isAtFault_24 : decode cX0_isAtFault 24 = .ok (.iload 5, 2) := by decide +kernel
theorem dX0_isAtFault_26 : decode cX0_isAtFault 26 = .ok (.isub, 1) := by decide +kernel
theorem dX0_isAtFault_27 : decode cX0_isAtFault 27 = .ok (.istore 7, 2) := by decide +kernel
theorem dX0_isAtFault_29 : decode cX0_isAtFault 29 = .ok (.iload_n 3, 1) := by decide +kernel
theorem dX0_isAtFault_30 : decode cX0_isAtFault 30 = .ok (.tableswitch 207 3 7 #[34, 70, 109, 143, 188], 34) := by decide +kernel
theorem dX0_isAtFault_64 : decode cX0_isAtFault 64 = .ok (.aload_n 0, 1) := by decide +kernel
theorem dX0_isAtFault_65 : decode cX0_isAtFault 65 = .ok (.getfield 17, 3) := by decide +kernel
theorem dX0_isAtFault_68 : decode cX0_isAtFault 68 = .ok (.iload_n 1, 1) := by decide +kernel
theorem dX0_isAtFault_69 : decode cX0_isAtFault 69 = .ok (.iaload, 1) := by decide +kernel
theorem dX0_isAtFault_70 : decode cX0_isAtFault 70 = .ok (.iconst 4, 1) := by decide +kernel
theorem dX0_isAtFault_71 : decode cX0_isAtFault 71 = .ok (.if_icmp .ne 27, 3) := by decide +kernel
theorem dX0_isAtFault_74 : decode cX0_isAtFault 74 = .ok (.aload_n 0, 1) := by decide +kernel
theorem dX0_isAtFault_75 : decode cX0_isAtFault 75 = .ok (.iload_n 1, 1) := by decide +kernel
theorem dX0_isAtFault_76 : decode cX0_isAtFault 76 = .ok (.iconst 0, 1) := by decide +kernel
theorem dX0_isAtFault_77 : decode cX0_isAtFault 77 = .ok (.invokevirtual 99, 3) := by decide +kernel
theorem dX0_isAtFault_80 : decode cX0_isAtFault 80 = .ok (.iload 6, 2) := by decide +kernel
theorem dX0_isAtFault_82 : decode cX0_isAtFault 82 = .ok (.invokestatic 151, 3) := by decide +kernel
theorem dX0_isAtFault_85 : decode cX0_isAtFault 85 = .ok (.iconst 3, 1) := by decide +kernel
theorem dX0_isAtFault_86 : decode cX0_isAtFault 86 = .ok (.if_icmp .ne 12, 3) := by decide +kernel
theorem dX0_isAtFault_89 : decode cX0_isAtFault 89 = .ok (.iload 7, 2) := by decide +kernel
theorem dX0_isAtFault_91 : decode cX0_isAtFault 91 = .ok (.ifCond .eq 7, 3) := by decide +kernel
theorem dX0_isAtFault_94 : decode cX0_isAtFault 94 = .ok (.iconst 1, 1) := by decide +kernel
theorem dX0_isAtFault_95 : decode cX0_isAtFault 95 = .ok (.goto 4, 3) := by decide +kernel
theorem dX0_isAtFault_98 : decode cX0_isAtFault 98 = .ok (.iconst 0, 1) := by decide +kernel
theorem dX0_isAtFault_99 : decode cX0_isAtFault 99 = .ok (.ireturn, 1) := by decide +kernel
theorem dX0_isAtFault_100 : decode cX0_isAtFault 100 = .ok (.aload_n 0, 1) := by decide +kernel
theorem dX0_isAtFault_101 : decode cX0_isAtFault 101 = .ok (.getfield 17, 3) := by decide +kernel
theorem dX0_isAtFault_104 : decode cX0_isAtFault 104 = .ok (.iload 4, 2) := by decide +kernel
theorem dX0_isAtFault_106 : decode cX0_isAtFault 106 = .ok (.iaload, 1) := by decide +kernel
theorem dX0_isAtFault_107 : decode cX0_isAtFault 107 = .ok (.iconst 4, 1) := by decide +kernel
theorem dX0_isAtFault_108 : decode cX0_isAtFault 108 = .ok (.if_icmp .ne 29, 3) := by decide +kernel
theorem dX0_isAtFault_111 : decode cX0_isAtFault 111 = .ok (.aload_n 0, 1) := by decide +kernel
theorem dX0_isAtFault_112 : decode cX0_isAtFault 112 = .ok (.iload 4, 2) := by decide +kernel
theorem dX0_isAtFault_114 : decode cX0_isAtFault 114 = .ok (.iconst 0, 1) := by decide +kernel
theorem dX0_isAtFault_115 : decode cX0_isAtFault 115 = .ok (.invokevirtual 99, 3) := by decide +kernel
theorem dX0_isAtFault_118 : decode cX0_isAtFault 118 = .ok (.iload 5, 2) := by decide +kernel
theorem dX0_isAtFault_120 : decode cX0_isAtFault 120 = .ok (.invokestatic 151, 3) := by decide +kernel
theorem dX0_isAtFault_123 : decode cX0_isAtFault 123 = .ok (.iconst 3, 1) := by decide +kernel
theorem dX0_isAtFault_124 : decode cX0_isAtFault 124 = .ok (.if_icmp .ne 13, 3) := by decide +kernel
theorem dX0_isAtFault_127 : decode cX0_isAtFault 127 = .ok (.iload 7, 2) := by decide +kernel
theorem dX0_isAtFault_129 : decode cX0_isAtFault 129 = .ok (.iconst (-1), 1) := by decide +kernel
theorem dX0_isAtFault_130 : decode cX0_isAtFault 130 = .ok (.if_icmp .eq 7, 3) := by decide +kernel
theorem dX0_isAtFault_133 : decode cX0_isAtFault 133 = .ok (.iconst 1, 1) := by decide +kernel
theorem dX0_isAtFault_134 : decode cX0_isAtFault 134 = .ok (.goto 4, 3) := by decide +kernel
theorem dX0_isAtFault_137 : decode cX0_isAtFault 137 = .ok (.iconst 0, 1) := by decide +kernel
theorem dX0_isAtFault_138 : decode cX0_isAtFault 138 = .ok (.ireturn, 1) := by decide +kernel
theorem dX0_isAtFault_139 : decode cX0_isAtFault 139 = .ok (.aload_n 0, 1) := by decide +kernel
theorem dX0_isAtFault_140 : decode cX0_isAtFault 140 = .ok (.iload_n 1, 1) := by decide +kernel
theorem dX0_isAtFault_141 : decode cX0_isAtFault 141 = .ok (.iconst 0, 1) := by decide +kernel
theorem dX0_isAtFault_142 : decode cX0_isAtFault 142 = .ok (.invokevirtual 99, 3) := by decide +kernel
theorem dX0_isAtFault_145 : decode cX0_isAtFault 145 = .ok (.bipush 7, 2) := by decide +kernel
theorem dX0_isAtFault_147 : decode cX0_isAtFault 147 = .ok (.irem, 1) := by decide +kernel
theorem dX0_isAtFault_148 : decode cX0_isAtFault 148 = .ok (.ifCond .ne 23, 3) := by decide +kernel
theorem dX0_isAtFault_151 : decode cX0_isAtFault 151 = .ok (.iload 5, 2) := by decide +kernel
theorem dX0_isAtFault_153 : decode cX0_isAtFault 153 = .ok (.bipush 7, 2) := by decide +kernel
theorem dX0_isAtFault_155 : decode cX0_isAtFault 155 = .ok (.irem, 1) := by decide +kernel
theorem dX0_isAtFault_156 : decode cX0_isAtFault 156 = .ok (.bipush 6, 2) := by decide +kernel
theorem dX0_isAtFault_158 : decode cX0_isAtFault 158 = .ok (.if_icmp .ne 13, 3) := by decide +kernel
theorem dX0_isAtFault_161 : decode cX0_isAtFault 161 = .ok (.iload 7, 2) := by decide +kernel
theorem dX0_isAtFault_163 : decode cX0_isAtFault 163 = .ok (.iconst 1, 1) := by decide +kernel
theorem dX0_isAtFault_164 : decode cX0_isAtFault 164 = .ok (.if_icmp .eq 7, 3) := by decide +kernel
theorem dX0_isAtFault_167 : decode cX0_isAtFault 167 = .ok (.iconst 1, 1) := by decide +kernel
theorem dX0_isAtFault_168 : decode cX0_isAtFault 168 = .ok (.goto 4, 3) := by decide +kernel
theorem dX0_isAtFault_171 : decode cX0_isAtFault 171 = .ok (.iconst 0, 1) := by decide +kernel
theorem dX0_isAtFault_172 : decode cX0_isAtFault 172 = .ok (.ireturn, 1) := by decide +kernel
theorem dX0_isAtFault_173 : decode cX0_isAtFault 173 = .ok (.aload_n 0, 1) := by decide +kernel
theorem dX0_isAtFault_174 : decode cX0_isAtFault 174 = .ok (.getfield 17, 3) := by decide +kernel
theorem dX0_isAtFault_177 : decode cX0_isAtFault 177 = .ok (.iload 4, 2) := by decide +kernel
theorem dX0_isAtFault_179 : decode cX0_isAtFault 179 = .ok (.iaload, 1) := by decide +kernel
theorem dX0_isAtFault_180 : decode cX0_isAtFault 180 = .ok (.iconst 3, 1) := by decide +kernel
theorem dX0_isAtFault_181 : decode cX0_isAtFault 181 = .ok (.if_icmp .ne 35, 3) := by decide +kernel
theorem dX0_isAtFault_184 : decode cX0_isAtFault 184 = .ok (.aload_n 0, 1) := by decide +kernel
theorem dX0_isAtFault_185 : decode cX0_isAtFault 185 = .ok (.iload 4, 2) := by decide +kernel
theorem dX0_isAtFault_187 : decode cX0_isAtFault 187 = .ok (.iconst 0, 1) := by decide +kernel
theorem dX0_isAtFault_188 : decode cX0_isAtFault 188 = .ok (.invokevirtual 99, 3) := by decide +kernel
theorem dX0_isAtFault_191 : decode cX0_isAtFault 191 = .ok (.iload 5, 2) := by decide +kernel
theorem dX0_isAtFault_193 : decode cX0_isAtFault 193 = .ok (.invokestatic 151, 3) := by decide +kernel
theorem dX0_isAtFault_196 : decode cX0_isAtFault 196 = .ok (.bipush 6, 2) := by decide +kernel
theorem dX0_isAtFault_198 : decode cX0_isAtFault 198 = .ok (.if_icmp .ne 18, 3) := by decide +kernel
theorem dX0_isAtFault_201 : decode cX0_isAtFault 201 = .ok (.iload 7, 2) := by decide +kernel
theorem dX0_isAtFault_203 : decode cX0_isAtFault 203 = .ok (.ifCond .eq 13, 3) := by decide +kernel
theorem dX0_isAtFault_206 : decode cX0_isAtFault 206 = .ok (.iload 7, 2) := by decide +kernel
theorem dX0_isAtFault_208 : decode cX0_isAtFault 208 = .ok (.iconst (-1), 1) := by decide +kernel
theorem dX0_isAtFault_209 : decode cX0_isAtFault 209 = .ok (.if_icmp .eq 7, 3) := by decide +kernel
theorem dX0_isAtFault_212 : decode cX0_isAtFault 212 = .ok (.iconst 1, 1) := by decide +kernel
theorem dX0_isAtFault_213 : decode cX0_isAtFault 213 = .ok (.goto 4, 3) := by decide +kernel
theorem dX0_isAtFault_216 : decode cX0_isAtFault 216 = .ok (.iconst 0, 1) := by decide +kernel
theorem dX0_isAtFault_217 : decode cX0_isAtFault 217 = .ok (.ireturn, 1) := by decide +kernel
theorem dX0_isAtFault_218 : decode cX0_isAtFault 218 = .ok (.iload 7, 2) := by decide +kernel
theorem dX0_isAtFault_220 : decode cX0_isAtFault 220 = .ok (.iconst 4, 1) := by decide +kernel
theorem dX0_isAtFault_221 : decode cX0_isAtFault 221 = .ok (.if_icmp .gt 10, 3) := by decide +kernel
theorem dX0_isAtFault_224 : decode cX0_isAtFault 224 = .ok (.iload 7, 2) := by decide +kernel
theorem dX0_isAtFault_226 : decode cX0_isAtFault 226 = .ok (.bipush (-4), 2) := by decide +kernel
theorem dX0_isAtFault_228 : decode cX0_isAtFault 228 = .ok (.if_icmp .ge 7, 3) := by decide +kernel
theorem dX0_isAtFault_231 : decode cX0_isAtFault 231 = .ok (.iconst 1, 1) := by decide +kernel
theorem dX0_isAtFault_232 : decode cX0_isAtFault 232 = .ok (.goto 4, 3) := by decide +kernel
theorem dX0_isAtFault_235 : decode cX0_isAtFault 235 = .ok (.iconst 0, 1) := by decide +kernel
theorem dX0_isAtFault_236 : decode cX0_isAtFault 236 = .ok (.ireturn, 1) := by decide +kernel
theorem dX0_isAtFault_237 : decode cX0_isAtFault 237 = .ok (.iconst 0, 1) := by decide +kernel
theorem dX0_isAtFault_238 : decode cX0_isAtFault 238 = .ok (.ireturn, 1) := by decide +kernel
set_option maxRecDepth 20000 in
theorem ggX0_allFaultsOf_X0_faultsOf : GoodIn wsX0_allFaultsOf wsX0_faultsOf := goodIn_r _ [5, 6, 7, 8, 4, 9, 10, 11, 12, 13, 14, 15, 16, 17, 18, 19, 20, 21, 22, 23, 24, 25, 26, 27, 28, 29, 30, 31, 32, 33, 34, 35, 36, 37, 38, 39, 40, 41, 42, 43, 44, 45, 46, 47, 48, 49, 50, 51, 52, 53, 54, 55, 56, 57, 58, 59, 60, 61, 62, 63, 64] (by decide +kernel) (by decide +kernel)
set_option maxRecDepth 20000 in
theorem gX0_allFaultsOf_X0_faultsOf : GoodIn wsX0_allFaultsOf (wsV RX0 110 RX0 yX0_faultsOf wsX0_faultsOf) := goodIn_app (goodIn_of _ (by decide +kernel)) ggX0_allFaultsOf_X0_faultsOf
theorem dX0_allFaultsOf_0 : decode cX0_allFaultsOf 0 = .ok (.iconst 0, 1) := by decide +kernel
theorem dX0_allFaultsOf_1 : decode cX0_allFaultsOf 1 = .ok (.istore_n 2, 1) := by decide +kernel
theorem dX0_allFaultsOf_2 : decode cX0_allFaultsOf 2 = .ok (.iconst 0, 1) := by decide +kernel
theorem dX0_allFaultsOf_3 : decode cX0_allFaultsOf 3 = .ok (.istore_n 3, 1) := by decide +kernel
theorem dX0_allFaultsOf_4 : decode cX0_allFaultsOf 4 = .ok (.iload_n 3, 1) := by decide +kernel
theorem dX0_allFaultsOf_5 : decode cX0_allFaultsOf 5 = .ok (.bipush 8, 2) := by decide +kernel
theorem dX0_allFaultsOf_7 : decode cX0_allFaultsOf 7 = .ok (.if_icmp .ge 18, 3) := by decide +kernel
theorem dX0_allFaultsOf_10 : decode cX0_allFaultsOf 10 = .ok (.iload_n 2, 1) := by decide +kernel
theorem dX0_allFaultsOf_11 : decode cX0_allFaultsOf 11 = .ok (.aload_n 0, 1) := by decide +kernel
theorem dX0_allFaultsOf_12 : decode cX0_allFaultsOf 12 = .ok (.iload_n 1, 1) := by decide +kernel
theorem dX0_allFaultsOf_13 : decode cX0_allFaultsOf 13 = .ok (.iload_n 3, 1) := by decide +kernel
theorem dX0_allFaultsOf_14 : decode cX0_allFaultsOf 14 = .ok (.invokevirtual 110, 3) := by decide +kernel
theorem dX0_allFaultsOf_17 : decode cX0_allFaultsOf 17 = .ok (.iadd, 1) := by decide +kernel
theorem dX0_allFaultsOf_18 : decode cX0_allFaultsOf 18 = .ok (.istore_n 2, 1) := by decide +kernel
theorem dX0_allFaultsOf_19 : decode cX0_allFaultsOf 19 = .ok (.iinc 3 1, 3) := by decide +kernel
theorem dX0_allFaultsOf_22 : decode cX0_allFaultsOf 22 = .ok (.goto (-18), 3) := by decide +kernel
theorem dX0_allFaultsOf_25 : decode cX0_allFaultsOf 25 = .ok (.iload_n 2, 1) := by decide +kernel
theorem dX0_allFaultsOf_26 : decode cX0_allFaultsOf 26 = .ok (.ireturn, 1) := by decide +kernel
set_option maxRecDepth 20000 in
theorem ggX0_listWays_X0_belongs : GoodIn wsX0_listWays wsX0_belongs := goodIn_r _ [11, 12, 13, 14, 15, 16, 10, 17, 18, 19, 20, 21, 31, 32, 33, 34, 35, 36] (by decide +kernel) (by decide +kernel)
set_option maxRecDepth 20000 in
theorem gX0_listWays_X0_belongs : GoodIn wsX0_listWays (wsV RX0 126 RX0 yX0_belongs wsX0_belongs) := goodIn_app (goodIn_of _ (by decide +kernel)) ggX0_listWays_X0_belongs
set_option maxRecDepth 20000 in
theorem ggX0_listWays_X0_listSopranos : GoodIn wsX0_listWays wsX0_listSopranos := goodIn_r _ [25, 1, 3, 4, 5, 6, 2, 26, 27, 28, 29, 10, 30, 12, 13, 14, 15, 16, 17, 18, 19, 20, 21, 31, 32, 33, 34, 35, 36] (by decide +kernel) (by decide +kernel)
set_option maxRecDepth 20000 in
theorem gX0_listWays_X0_listSopranos : GoodIn wsX0_listWays (wsV RX0 197 RX0 yX0_listSopranos wsX0_listSopranos) := goodIn_app (goodIn_of _ (by decide +kernel)) ggX0_listWays_X0_listSopranos
theorem dX0_listWays_0 : decode cX0_listWays 0 = .ok (.iconst 0, 1) := by decide +kernel
theorem dX0_listWays_1 : decode cX0_listWays 1 = .ok (.istore_n 2, 1) := by decide +kernel
theorem dX0_listWays_2 : decode cX0_listWays 2 = .ok (.getstatic 139, 3) := by decide +kernel
theorem dX0_listWays_5 : decode cX0_listWays 5 = .ok (.iconst 1, 1) := by decide +kernel
theorem dX0_listWays_6 : decode cX0_listWays 6 = .ok (.iaload, 1) := by decide +kernel
theorem dX0_listWays_7 : decode cX0_listWays 7 = .ok (.istore_n 3, 1) := by decide +kernel
theorem dX0_listWays_8 : decode cX0_listWays 8 = .ok (.iload_n 3, 1) := by decide +kernel
theorem dX0_listWays_9 : decode cX0_listWays 9 = .ok (.getstatic 142, 3) := by decide +kernel
theorem dX0_listWays_12 : decode cX0_listWays 12 = .ok (.iconst 1, 1) := by decide +kernel
theorem dX0_listWays_13 : decode cX0_listWays 13 = .ok (.iaload, 1) := by decide +kernel
theorem dX0_listWays_14 : decode cX0_listWays 14 = .ok (.if_icmp .gt 65, 3) := by decide +kernel
theorem dX0_listWays_17 : decode cX0_listWays 17 = .ok (.aload_n 0, 1) := by decide +kernel
theorem dX0_listWays_18 : decode cX0_listWays 18 = .ok (.iload_n 1, 1) := by decide +kernel
theorem dX0_listWays_19 : decode cX0_listWays 19 = .ok (.iload_n 3, 1) := by decide +kernel
theorem dX0_listWays_20 : decode cX0_listWays 20 = .ok (.invokevirtual 126, 3) := by decide +kernel
theorem dX0_listWays_23 : decode cX0_listWays 23 = .ok (.ifCond .eq 50, 3) := by decide +kernel
theorem dX0_listWays_26 : decode cX0_listWays 26 = .ok (.iload_n 3, 1) := by decide +kernel
theorem dX0_listWays_27 : decode cX0_listWays 27 = .ok (.getstatic 139, 3) := by decide +kernel
theorem dX0_listWays_30 : decode cX0_listWays 30 = .ok (.iconst 2, 1) := by decide +kernel
theorem dX0_listWays_31 : decode cX0_listWays 31 = .ok (.iaload, 1) := by decide +kernel
theorem dX0_listWays_32 : decode cX0_listWays 32 = .ok (.invokestatic 194, 3) := by decide +kernel
theorem dX0_listWays_35 : decode cX0_listWays 35 = .ok (.istore 4, 2) := by decide +kernel
theorem dX0_listWays_37 : decode cX0_listWays 37 = .ok (.iload 4, 2) := by decide +kernel
theorem dX0_listWays_39 : decode cX0_listWays 39 = .ok (.getstatic 142, 3) := by decide +kernel
theorem dX0_listWays_42 : decode cX0_listWays 42 = .ok (.iconst 2, 1) := by decide +kernel
theorem dX0_listWays_43 : decode cX0_listWays 43 = .ok (.iaload, 1) := by decide +kernel
theorem dX0_listWays_44 : decode cX0_listWays 44 = .ok (.if_icmp .gt 29, 3) := by decide +kernel
theorem dX0_listWays_47 : decode cX0_listWays 47 = .ok (.aload_n 0, 1) := by decide +kernel
theorem dX0_listWays_48 : decode cX0_listWays 48 = .ok (.iload_n 1, 1) := by decide +kernel
theorem dX0_listWays_49 : decode cX0_listWays 49 = .ok (.iload 4, 2) := by decide +kernel
theorem dX0_listWays_51 : decode cX0_listWays 51 = .ok (.invokevirtual 126, 3) := by decide +kernel
theorem dX0_listWays_54 : decode cX0_listWays 54 = .ok (.ifCond .eq 13, 3) := by decide +kernel
theorem dX0_listWays_57 : decode cX0_listWays 57 = .ok (.aload_n 0, 1) := by decide +kernel
theorem dX0_listWays_58 : decode cX0_listWays 58 = .ok (.iload_n 1, 1) := by decide +kernel
theorem dX0_listWays_59 : decode cX0_listWays 59 = .ok (.iload_n 3, 1) := by decide +kernel
theorem dX0_listWays_60 : decode cX0_listWays 60 = .ok (.iload 4, 2) := by decide +kernel
theorem dX0_listWays_62 : decode cX0_listWays 62 = .ok (.iload_n 2, 1) := by decide +kernel
theorem dX0_listWays_63 : decode cX0_listWays 63 = .ok (.invokevirtual 197, 3) := by decide +kernel
theorem dX0_listWays_66 : decode cX0_listWays 66 = .ok (.istore_n 2, 1) := by decide +kernel
theorem dX0_listWays_67 : decode cX0_listWays 67 = .ok (.iinc 4 1, 3) := by decide +kernel
theorem dX0_listWays_70 : decode cX0_listWays 70 = .ok (.goto (-33), 3) := by decide +kernel
theorem dX0_listWays_73 : decode cX0_listWays 73 = .ok (.iinc 3 1, 3) := by decide +kernel
theorem dX0_listWays_76 : decode cX0_listWays 76 = .ok (.goto (-68), 3) := by decide +kernel
theorem dX0_listWays_79 : decode cX0_listWays 79 = .ok (.iload_n 2, 1) := by decide +kernel
theorem dX0_listWays_80 : decode cX0_listWays 80 = .ok (.ireturn, 1) := by decide +kernel
set_option maxRecDepth 20000 in
theorem ggX0_listSopranos_X0_isRightWith : GoodIn wsX0_listSopranos wsX0_isRightWith := goodIn_r _ [12, 13, 14, 15, 16, 17, 11, 18, 19, 20, 21, 22, 23, 24, 25, 26, 27, 28] (by decide +kernel) (by decide +kernel)
set_option maxRecDepth 20000 in
theorem gX0_listSopranos_X0_isRightWith : GoodIn wsX0_listSopranos (wsV RX0 157 RX0 yX0_isRightWith wsX0_isRightWith) := goodIn_app (goodIn_of _ (by decide +kernel)) ggX0_listSopranos_X0_isRightWith
theorem dX0_listSopranos_0 : decode cX0_listSopranos 0 = .ok (.iload 4, 2) := by decide +kernel
theorem dX0_listSopranos_2 : decode cX0_listSopranos 2 = .ok (.istore 5, 2) := by decide +kernel
theorem dX0_listSopranos_4 : decode cX0_listSopranos 4 = .ok (.iload_n 3, 1) := by decide +kernel
theorem dX0_listSopranos_5 : decode cX0_listSopranos 5 = .ok (.getstatic 139, 3) := by decide +kernel
theorem dX0_listSopranos_8 : decode cX0_listSopranos 8 = .ok (.iconst 3, 1) := by decide +kernel
theorem dX0_listSopranos_9 : decode cX0_listSopranos 9 = .ok (.iaload, 1) := by decide +kernel
theorem dX0_listSopranos_10 : decode cX0_listSopranos 10 = .ok (.invokestatic 194, 3) := by decide +kernel
theorem dX0_listSopranos_13 : decode cX0_listSopranos 13 = .ok (.istore 6, 2) := by decide +kernel
theorem dX0_listSopranos_15 : decode cX0_listSopranos 15 = .ok (.iload 6, 2) := by decide +kernel
theorem dX0_listSopranos_17 : decode cX0_listSopranos 17 = .ok (.getstatic 142, 3) := by decide +kernel
theorem dX0_listSopranos_20 : decode cX0_listSopranos 20 = .ok (.iconst 3, 1) := by decide +kernel
theorem dX0_listSopranos_21 : decode cX0_listSopranos 21 = .ok (.iaload, 1) := by decide +kernel
theorem dX0_listSopranos_22 : decode cX0_listSopranos 22 = .ok (.if_icmp .gt 54, 3) := by decide +kernel
theorem dX0_listSopranos_25 : decode cX0_listSopranos 25 = .ok (.aload_n 0, 1) := by decide +kernel
theorem dX0_listSopranos_26 : decode cX0_listSopranos 26 = .ok (.iload_n 1, 1) := by decide +kernel
theorem dX0_listSopranos_27 : decode cX0_listSopranos 27 = .ok (.iload_n 2, 1) := by decide +kernel
theorem dX0_listSopranos_28 : decode cX0_listSopranos 28 = .ok (.iload_n 3, 1) := by decide +kernel
theorem dX0_listSopranos_29 : decode cX0_listSopranos 29 = .ok (.iload 6, 2) := by decide +kernel
theorem dX0_listSopranos_31 : decode cX0_listSopranos 31 = .ok (.invokevirtual 157, 3) := by decide +kernel
theorem dX0_listSopranos_34 : decode cX0_listSopranos 34 = .ok (.ifCond .eq 36, 3) := by decide +kernel
theorem dX0_listSopranos_37 : decode cX0_listSopranos 37 = .ok (.iload 5, 2) := by decide +kernel
theorem dX0_listSopranos_39 : decode cX0_listSopranos 39 = .ok (.aload_n 0, 1) := by decide +kernel
theorem dX0_listSopranos_40 : decode cX0_listSopranos 40 = .ok (.getfield 27, 3) := by decide +kernel
theorem dX0_listSopranos_43 : decode cX0_listSopranos 43 = .ok (.arraylength, 1) := by decide +kernel
theorem dX0_listSopranos_44 : decode cX0_listSopranos 44 = .ok (.if_icmp .ge 26, 3) := by decide +kernel
theorem dX0_listSopranos_47 : decode cX0_listSopranos 47 = .ok (.aload_n 0, 1) := by decide +kernel
theorem dX0_listSopranos_48 : decode cX0_listSopranos 48 = .ok (.getfield 27, 3) := by decide +kernel
theorem dX0_listSopranos_51 : decode cX0_listSopranos 51 = .ok (.iload 5, 2) := by decide +kernel
theorem dX0_listSopranos_53 : decode cX0_listSopranos 53 = .ok (.iload_n 2, 1) := by decide +kernel
theorem dX0_listSopranos_54 : decode cX0_listSopranos 54 = .ok (.sipush 784, 3) := by decide +kernel
theorem dX0_listSopranos_57 : decode cX0_listSopranos 57 = .ok (.imul, 1) := by decide +kernel
theorem dX0_listSopranos_58 : decode cX0_listSopranos 58 = .ok (.iload_n 3, 1) := by decide +kernel
theorem dX0_listSopranos_59 : decode cX0_listSopranos 59 = .ok (.bipush 28, 2) := by decide +kernel
theorem dX0_listSopranos_61 : decode cX0_listSopranos 61 = .ok (.imul, 1) := by decide +kernel
theorem dX0_listSopranos_62 : decode cX0_listSopranos 62 = .ok (.iadd, 1) := by decide +kernel
theorem dX0_listSopranos_63 : decode cX0_listSopranos 63 = .ok (.iload 6, 2) := by decide +kernel
theorem dX0_listSopranos_65 : decode cX0_listSopranos 65 = .ok (.iadd, 1) := by decide +kernel
theorem dX0_listSopranos_66 : decode cX0_listSopranos 66 = .ok (.iastore, 1) := by decide +kernel
theorem dX0_listSopranos_67 : decode cX0_listSopranos 67 = .ok (.iinc 5 1, 3) := by decide +kernel
theorem dX0_listSopranos_70 : decode cX0_listSopranos 70 = .ok (.iinc 6 1, 3) := by decide +kernel
theorem dX0_listSopranos_73 : decode cX0_listSopranos 73 = .ok (.goto (-58), 3) := by decide +kernel
theorem dX0_listSopranos_76 : decode cX0_listSopranos 76 = .ok (.iload 5, 2) := by decide +kernel
theorem dX0_listSopranos_78 : decode cX0_listSopranos 78 = .ok (.ireturn, 1) := by decide +kernel
set_option maxRecDepth 20000 in
theorem ggX0_bestWay_X0_noteAt : GoodIn wsX0_bestWay wsX0_noteAt := goodIn_r _ [6, 7, 107, 108, 109, 110, 111, 112] (by decide +kernel) (by decide +kernel)
set_option maxRecDepth 20000 in
theorem gX0_bestWay_X0_noteAt : GoodIn wsX0_bestWay (wsV RX0 99 RX0 yX0_noteAt wsX0_noteAt) := goodIn_app (goodIn_of _ (by decide +kernel)) ggX0_bestWay_X0_noteAt
set_option maxRecDepth 20000 in
theorem ggX0_bestWay_X0_listWays : GoodIn wsX0_bestWay wsX0_listWays := goodIn_r _ [11, 12, 13, 14, 15, 16, 17, 18, 19, 20, 5, 21, 22, 23, 2, 3, 4, 6, 7, 24, 25, 26, 27, 28, 29, 30, 1, 31, 32, 33, 34, 107, 108, 109, 110, 111, 112] (by decide +kernel) (by decide +kernel)
set_option maxRecDepth 20000 in
theorem gX0_bestWay_X0_listWays : GoodIn wsX0_bestWay (wsV RX0 129 RX0 yX0_listWays wsX0_listWays) := goodIn_app (goodIn_of _ (by decide +kernel)) ggX0_bestWay_X0_listWays
set_option maxRecDepth 20000 in
theorem ggX0_bestWay_X0_putWay : GoodIn wsX0_bestWay wsX0_putWay := goodIn_r _ [38, 39, 40, 41, 5, 42, 7, 107, 108, 109, 110, 111, 112] (by decide +kernel) (by decide +kernel)
set_option maxRecDepth 20000 in
theorem gX0_bestWay_X0_putWay : GoodIn wsX0_bestWay (wsV RX0 90 RX0 yX0_putWay wsX0_putWay) := goodIn_app (goodIn_of _ (by decide +kernel)) ggX0_bestWay_X0_putWay
set_option maxRecDepth 20000 in
theorem ggX0_bestWay_X0_costOf : GoodIn wsX0_bestWay wsX0_costOf := goodIn_r _ [46, 47, 48, 49, 50, 5, 51, 52, 53, 54, 55, 56, 2, 3, 4, 6, 7, 57, 58, 59, 60, 31, 32, 33, 34, 22, 23, 24, 25, 26, 61, 62, 63, 64, 65, 66, 16, 67, 68, 69, 70, 71, 72, 73, 74, 75, 76, 77, 78, 79, 80, 81, 82, 83, 84, 85, 86, 87, 88, 89, 90, 91, 92, 93, 94, 95, 96, 97, 98, 99, 100, 101, 102, 103, 104, 105, 106, 107, 108, 109, 110, 111, 112] (by decide +kernel) (by decide +kernel)
set_option maxRecDepth 20000 in
theorem gX0_bestWay_X0_costOf : GoodIn wsX0_bestWay (wsV RX0 94 RX0 yX0_costOf wsX0_costOf) := goodIn_app (goodIn_of _ (by decide +kernel)) ggX0_bestWay_X0_costOf
set_option maxRecDepth 20000 in
theorem ggX0_bestWay_X0_putNotes : GoodIn wsX0_bestWay wsX0_putNotes := goodIn_r _ [42, 7, 107, 108, 109, 110, 111, 112] (by decide +kernel) (by decide +kernel)
set_option maxRecDepth 20000 in
theorem gX0_bestWay_X0_putNotes : GoodIn wsX0_bestWay (wsV RX0 52 RX0 yX0_putNotes wsX0_putNotes) := goodIn_app (goodIn_of _ (by decide +kernel)) ggX0_bestWay_X0_putNotes
theorem dX0_bestWay_0 : decode cX0_bestWay 0 = .ok (.aload_n 0, 1) := by decide +kernel
theorem dX0_bestWay_1 : decode cX0_bestWay 1 = .ok (.iload_n 1, 1) := by decide +kernel
theorem dX0_bestWay_2 : decode cX0_bestWay 2 = .ok (.iconst 1, 1) := by decide +kernel
theorem dX0_bestWay_3 : decode cX0_bestWay 3 = .ok (.invokevirtual 99, 3) := by decide +kernel
theorem dX0_bestWay_6 : decode cX0_bestWay 6 = .ok (.istore_n 2, 1) := by decide +kernel
theorem dX0_bestWay_7 : decode cX0_bestWay 7 = .ok (.aload_n 0, 1) := by decide +kernel
theorem dX0_bestWay_8 : decode cX0_bestWay 8 = .ok (.iload_n 1, 1) := by decide +kernel
theorem dX0_bestWay_9 : decode cX0_bestWay 9 = .ok (.iconst 2, 1) := by decide +kernel
theorem dX0_bestWay_10 : decode cX0_bestWay 10 = .ok (.invokevirtual 99, 3) := by decide +kernel
theorem dX0_bestWay_13 : decode cX0_bestWay 13 = .ok (.istore_n 3, 1) := by decide +kernel
theorem dX0_bestWay_14 : decode cX0_bestWay 14 = .ok (.aload_n 0, 1) := by decide +kernel
theorem dX0_bestWay_15 : decode cX0_bestWay 15 = .ok (.iload_n 1, 1) := by decide +kernel
theorem dX0_bestWay_16 : decode cX0_bestWay 16 = .ok (.iconst 3, 1) := by decide +kernel
theorem dX0_bestWay_17 : decode cX0_bestWay 17 = .ok (.invokevirtual 99, 3) := by decide +kernel
theorem dX0_bestWay_20 : decode cX0_bestWay 20 = .ok (.istore 4, 2) := by decide +kernel
theorem dX0_bestWay_22 : decode cX0_bestWay 22 = .ok (.aload_n 0, 1) := by decide +kernel
theorem dX0_bestWay_23 : decode cX0_bestWay 23 = .ok (.iload_n 1, 1) := by decide +kernel
theorem dX0_bestWay_24 : decode cX0_bestWay 24 = .ok (.invokevirtual 129, 3) := by decide +kernel
theorem dX0_bestWay_27 : decode cX0_bestWay 27 = .ok (.istore 5, 2) := by decide +kernel
theorem dX0_bestWay_29 : decode cX0_bestWay 29 = .ok (.iconst (-1), 1) := by decide +kernel
theorem dX0_bestWay_30 : decode cX0_bestWay 30 = .ok (.istore 6, 2) := by decide +kernel
theorem dX0_bestWay_32 : decode cX0_bestWay 32 = .ok (.iconst 0, 1) := by decide +kernel
theorem dX0_bestWay_33 : decode cX0_bestWay 33 = .ok (.istore 7, 2) := by decide +kernel
theorem dX0_bestWay_35 : decode cX0_bestWay 35 = .ok (.iconst 0, 1) := by decide +kernel
theorem dX0_bestWay_36 : decode cX0_bestWay 36 = .ok (.istore 8, 2) := by decide +kernel
theorem dX0_bestWay_38 : decode cX0_bestWay 38 = .ok (.iload 8, 2) := by decide +kernel
theorem dX0_bestWay_40 : decode cX0_bestWay 40 = .ok (.iload 5, 2) := by decide +kernel
theorem dX0_bestWay_42 : decode cX0_bestWay 42 = .ok (.if_icmp .ge 71, 3) := by decide +kernel
theorem dX0_bestWay_45 : decode cX0_bestWay 45 = .ok (.iload 8, 2) := by decide +kernel
theorem dX0_bestWay_47 : decode cX0_bestWay 47 = .ok (.aload_n 0, 1) := by decide +kernel
theorem dX0_bestWay_48 : decode cX0_bestWay 48 = .ok (.getfield 27, 3) := by decide +kernel
theorem dX0_bestWay_51 : decode cX0_bestWay 51 = .ok (.arraylength, 1) := by decide +kernel
theorem dX0_bestWay_52 : decode cX0_bestWay 52 = .ok (.if_icmp .ge 61, 3) := by decide +kernel
theorem dX0_bestWay_55 : decode cX0_bestWay 55 = .ok (.aload_n 0, 1) := by decide +kernel
theorem dX0_bestWay_56 : decode cX0_bestWay 56 = .ok (.iload_n 1, 1) := by decide +kernel
theorem dX0_bestWay_57 : decode cX0_bestWay 57 = .ok (.aload_n 0, 1) := by decide +kernel
theorem dX0_bestWay_58 : decode cX0_bestWay 58 = .ok (.getfield 27, 3) := by decide +kernel
theorem dX0_bestWay_61 : decode cX0_bestWay 61 = .ok (.iload 8, 2) := by decide +kernel
theorem dX0_bestWay_63 : decode cX0_bestWay 63 = .ok (.iaload, 1) := by decide +kernel
theorem dX0_bestWay_64 : decode cX0_bestWay 64 = .ok (.invokevirtual 90, 3) := by decide +kernel
theorem dX0_bestWay_67 : decode cX0_bestWay 67 = .ok (.aload_n 0, 1) := by decide +kernel
theorem dX0_bestWay_68 : decode cX0_bestWay 68 = .ok (.iload_n 1, 1) := by decide +kernel
theorem dX0_bestWay_69 : decode cX0_bestWay 69 = .ok (.invokevirtual 94, 3) := by decide +kernel
theorem dX0_bestWay_72 : decode cX0_bestWay 72 = .ok (.aload_n 0, 1) := by decide +kernel
theorem dX0_bestWay_73 : decode cX0_bestWay 73 = .ok (.iload_n 1, 1) := by decide +kernel
theorem dX0_bestWay_74 : decode cX0_bestWay 74 = .ok (.iconst 1, 1) := by decide +kernel
theorem dX0_bestWay_75 : decode cX0_bestWay 75 = .ok (.iadd, 1) := by decide +kernel
theorem dX0_bestWay_76 : decode cX0_bestWay 76 = .ok (.invokevirtual 94, 3) := by decide +kernel
theorem dX0_bestWay_79 : decode cX0_bestWay 79 = .ok (.iadd, 1) := by decide +kernel
theorem dX0_bestWay_80 : decode cX0_bestWay 80 = .ok (.istore 9, 2) := by decide +kernel
theorem dX0_bestWay_82 : decode cX0_bestWay 82 = .ok (.iload 6, 2) := by decide +kernel
theorem dX0_bestWay_84 : decode cX0_bestWay 84 = .ok (.ifCond .lt 10, 3) := by decide +kernel
theorem dX0_bestWay_87 : decode cX0_bestWay 87 = .ok (.iload 9, 2) := by decide +kernel
theorem dX0_bestWay_89 : decode cX0_bestWay 89 = .ok (.iload 7, 2) := by decide +kernel
theorem dX0_bestWay_91 : decode cX0_bestWay 91 = .ok (.if_icmp .ge 16, 3) := by decide +kernel
theorem dX0_bestWay_94 : decode cX0_bestWay 94 = .ok (.aload_n 0, 1) := by decide +kernel
theorem dX0_bestWay_95 : decode cX0_bestWay 95 = .ok (.getfield 27, 3) := by decide +kernel
theorem dX0_bestWay_98 : decode cX0_bestWay 98 = .ok (.iload 8, 2) := by decide +kernel
theorem dX0_bestWay_100 : decode cX0_bestWay 100 = .ok (.iaload, 1) := by decide +kernel
theorem dX0_bestWay_101 : decode cX0_bestWay 101 = .ok (.istore 6, 2) := by decide +kernel
theorem dX0_bestWay_103 : decode cX0_bestWay 103 = .ok (.iload 9, 2) := by decide +kernel
theorem dX0_bestWay_105 : decode cX0_bestWay 105 = .ok (.istore 7, 2) := by decide +kernel
theorem dX0_bestWay_107 : decode cX0_bestWay 107 = .ok (.iinc 8 1, 3) := by decide +kernel
theorem dX0_bestWay_110 : decode cX0_bestWay 110 = .ok (.goto (-72), 3) := by decide +kernel
theorem dX0_bestWay_113 : decode cX0_bestWay 113 = .ok (.aload_n 0, 1) := by decide +kernel
theorem dX0_bestWay_114 : decode cX0_bestWay 114 = .ok (.iload_n 1, 1) := by decide +kernel
theorem dX0_bestWay_115 : decode cX0_bestWay 115 = .ok (.iload_n 2, 1) := by decide +kernel
theorem dX0_bestWay_116 : decode cX0_bestWay 116 = .ok (.iload_n 3, 1) := by decide +kernel
theorem dX0_bestWay_117 : decode cX0_bestWay 117 = .ok (.iload 4, 2) := by decide +kernel
theorem dX0_bestWay_119 : decode cX0_bestWay 119 = .ok (.invokevirtual 52, 3) := by decide +kernel
theorem dX0_bestWay_122 : decode cX0_bestWay 122 = .ok (.iload 6, 2) := by decide +kernel
theorem dX0_bestWay_124 : decode cX0_bestWay 124 = .ok (.ireturn, 1) := by decide +kernel
set_option maxRecDepth 20000 in
theorem ggX0_tellOf_X0_noteAt : GoodIn wsX0_tellOf wsX0_noteAt := goodIn_r _ [6, 7, 81, 82, 83, 84, 85, 86] (by decide +kernel) (by decide +kernel)
set_option maxRecDepth 20000 in
theorem gX0_tellOf_X0_noteAt : GoodIn wsX0_tellOf (wsV RX0 99 RX0 yX0_noteAt wsX0_noteAt) := goodIn_app (goodIn_of _ (by decide +kernel)) ggX0_tellOf_X0_noteAt
set_option maxRecDepth 20000 in
theorem ggX0_tellOf_X0_isSet : GoodIn wsX0_tellOf wsX0_isSet := goodIn_r _ [11, 12, 13, 14, 5, 15, 16, 2, 3, 4, 6, 7, 81, 82, 83, 84, 85, 86] (by decide +kernel) (by decide +kernel)
set_option maxRecDepth 20000 in
theorem gX0_tellOf_X0_isSet : GoodIn wsX0_tellOf (wsV RX0 154 RX0 yX0_isSet wsX0_isSet) := goodIn_app (goodIn_of _ (by decide +kernel)) ggX0_tellOf_X0_isSet
set_option maxRecDepth 20000 in
theorem ggX0_tellOf_X0_isRight : GoodIn wsX0_tellOf wsX0_isRight := goodIn_r _ [20, 8, 9, 10, 5, 11, 12, 13, 14, 15, 16, 2, 3, 4, 6, 7, 21, 22, 23, 24, 25, 1, 26, 27, 28, 81, 82, 83, 84, 85, 86] (by decide +kernel) (by decide +kernel)
set_option maxRecDepth 20000 in
theorem gX0_tellOf_X0_isRight : GoodIn wsX0_tellOf (wsV RX0 169 RX0 yX0_isRight wsX0_isRight) := goodIn_app (goodIn_of _ (by decide +kernel)) ggX0_tellOf_X0_isRight
set_option maxRecDepth 20000 in
theorem ggX0_tellOf_X0_stepsGone : GoodIn wsX0_tellOf wsX0_stepsGone := goodIn_r _ [32, 33, 34, 35, 36, 37, 38, 39, 5, 40, 8, 9, 10, 11, 12, 13, 14, 15, 16, 2, 3, 4, 6, 7, 81, 82, 83, 84, 85, 86] (by decide +kernel) (by decide +kernel)
set_option maxRecDepth 20000 in
theorem gX0_tellOf_X0_stepsGone : GoodIn wsX0_tellOf (wsV RX0 172 RX0 yX0_stepsGone wsX0_stepsGone) := goodIn_app (goodIn_of _ (by decide +kernel)) ggX0_tellOf_X0_stepsGone
set_option maxRecDepth 20000 in
theorem ggX0_tellOf_X0_costOf : GoodIn wsX0_tellOf wsX0_costOf := goodIn_r _ [44, 45, 8, 9, 10, 5, 11, 12, 13, 14, 15, 16, 2, 3, 4, 6, 7, 17, 18, 19, 20, 21, 22, 23, 24, 25, 1, 26, 27, 28, 29, 30, 31, 32, 33, 34, 35, 36, 37, 38, 39, 40, 46, 47, 48, 49, 50, 51, 52, 53, 54, 55, 56, 57, 58, 59, 60, 61, 62, 63, 64, 65, 66, 67, 68, 69, 70, 71, 72, 73, 74, 75, 76, 77, 78, 79, 80, 81, 82, 83, 84, 85, 86] (by decide +kernel) (by decide +kernel)
set_option maxRecDepth 20000 in
theorem gX0_tellOf_X0_costOf : GoodIn wsX0_tellOf (wsV RX0 94 RX0 yX0_costOf wsX0_costOf) := goodIn_app (goodIn_of _ (by decide +kernel)) ggX0_tellOf_X0_costOf
theorem dX0_tellOf_0 : decode cX0_tellOf 0 = .ok (.iload_n 2, 1) := by decide +kernel
theorem dX0_tellOf_1 : decode cX0_tellOf 1 = .ok (.tableswitch 86 0 4 #[35, 42, 52, 66, 80], 35) := by decide +kernel
theorem dX0_tellOf_36 : decode cX0_tellOf 36 = .ok (.aload_n 0, 1) := by decide +kernel
theorem dX0_tellOf_37 : decode cX0_tellOf 37 = .ok (.getfield 17, 3) := by decide +kernel
theorem dX0_tellOf_40 : decode cX0_tellOf 40 = .ok (.iload_n 1, 1) := by decide +kernel
theorem dX0_tellOf_41 : decode cX0_tellOf 41 = .ok (.iaload, 1) := by decide +kernel
theorem dX0_tellOf_42 : decode cX0_tellOf 42 = .ok (.ireturn, 1) := by decide +kernel
theorem dX0_tellOf_43 : decode cX0_tellOf 43 = .ok (.aload_n 0, 1) := by decide +kernel
theorem dX0_tellOf_44 : decode cX0_tellOf 44 = .ok (.iload_n 1, 1) := by decide +kernel
theorem dX0_tellOf_45 : decode cX0_tellOf 45 = .ok (.iconst 0, 1) := by decide +kernel
theorem dX0_tellOf_46 : decode cX0_tellOf 46 = .ok (.invokevirtual 99, 3) := by decide +kernel
theorem dX0_tellOf_49 : decode cX0_tellOf 49 = .ok (.bipush 7, 2) := by decide +kernel
theorem dX0_tellOf_51 : decode cX0_tellOf 51 = .ok (.irem, 1) := by decide +kernel
theorem dX0_tellOf_52 : decode cX0_tellOf 52 = .ok (.ireturn, 1) := by decide +kernel
theorem dX0_tellOf_53 : decode cX0_tellOf 53 = .ok (.aload_n 0, 1) := by decide +kernel
theorem dX0_tellOf_54 : decode cX0_tellOf 54 = .ok (.iload_n 1, 1) := by decide +kernel
theorem dX0_tellOf_55 : decode cX0_tellOf 55 = .ok (.invokevirtual 154, 3) := by decide +kernel
theorem dX0_tellOf_58 : decode cX0_tellOf 58 = .ok (.ifCond .eq 7, 3) := by decide +kernel
theorem dX0_tellOf_61 : decode cX0_tellOf 61 = .ok (.iconst 1, 1) := by decide +kernel
theorem dX0_tellOf_62 : decode cX0_tellOf 62 = .ok (.goto 4, 3) := by decide +kernel
theorem dX0_tellOf_65 : decode cX0_tellOf 65 = .ok (.iconst 0, 1) := by decide +kernel
theorem dX0_tellOf_66 : decode cX0_tellOf 66 = .ok (.ireturn, 1) := by decide +kernel
theorem dX0_tellOf_67 : decode cX0_tellOf 67 = .ok (.aload_n 0, 1) := by decide +kernel
theorem dX0_tellOf_68 : decode cX0_tellOf 68 = .ok (.iload_n 1, 1) := by decide +kernel
theorem dX0_tellOf_69 : decode cX0_tellOf 69 = .ok (.invokevirtual 169, 3) := by decide +kernel
theorem dX0_tellOf_72 : decode cX0_tellOf 72 = .ok (.ifCond .eq 7, 3) := by decide +kernel
theorem dX0_tellOf_75 : decode cX0_tellOf 75 = .ok (.iconst 1, 1) := by decide +kernel
theorem dX0_tellOf_76 : decode cX0_tellOf 76 = .ok (.goto 4, 3) := by decide +kernel
theorem dX0_tellOf_79 : decode cX0_tellOf 79 = .ok (.iconst 0, 1) := by decide +kernel
theorem dX0_tellOf_80 : decode cX0_tellOf 80 = .ok (.ireturn, 1) := by decide +kernel
theorem dX0_tellOf_81 : decode cX0_tellOf 81 = .ok (.aload_n 0, 1) := by decide +kernel
theorem dX0_tellOf_82 : decode cX0_tellOf 82 = .ok (.iload_n 1, 1) := by decide +kernel
theorem dX0_tellOf_83 : decode cX0_tellOf 83 = .ok (.invokevirtual 172, 3) := by decide +kernel
theorem dX0_tellOf_86 : decode cX0_tellOf 86 = .ok (.ireturn, 1) := by decide +kernel
theorem dX0_tellOf_87 : decode cX0_tellOf 87 = .ok (.aload_n 0, 1) := by decide +kernel
theorem dX0_tellOf_88 : decode cX0_tellOf 88 = .ok (.iload_n 1, 1) := by decide +kernel
theorem dX0_tellOf_89 : decode cX0_tellOf 89 = .ok (.invokevirtual 94, 3) := by decide +kernel
theorem dX0_tellOf_92 : decode cX0_tellOf 92 = .ok (.ireturn, 1) := by decide +kernel
set_option maxRecDepth 20000 in
theorem ggX0_countOf_X0_isSet : GoodIn wsX0_countOf wsX0_isSet := goodIn_r _ [7, 8, 9, 10, 6, 11, 2, 12, 13, 14, 15, 16, 85, 86, 87, 88, 89, 90] (by decide +kernel) (by decide +kernel)
set_option maxRecDepth 20000 in
theorem gX0_countOf_X0_isSet : GoodIn wsX0_countOf (wsV RX0 154 RX0 yX0_isSet wsX0_isSet) := goodIn_app (goodIn_of _ (by decide +kernel)) ggX0_countOf_X0_isSet
set_option maxRecDepth 20000 in
theorem ggX0_countOf_X0_isRight : GoodIn wsX0_countOf wsX0_isRight := goodIn_r _ [20, 3, 4, 5, 6, 7, 8, 9, 10, 11, 2, 12, 13, 14, 15, 16, 21, 22, 23, 24, 25, 26, 27, 28, 29, 85, 86, 87, 88, 89, 90] (by decide +kernel) (by decide +kernel)
set_option maxRecDepth 20000 in
theorem gX0_countOf_X0_isRight : GoodIn wsX0_countOf (wsV RX0 169 RX0 yX0_isRight wsX0_isRight) := goodIn_app (goodIn_of _ (by decide +kernel)) ggX0_countOf_X0_isRight
set_option maxRecDepth 20000 in
theorem ggX0_countOf_X0_stepsGone : GoodIn wsX0_countOf wsX0_stepsGone := goodIn_r _ [33, 34, 35, 36, 37, 38, 39, 40, 6, 41, 3, 4, 5, 7, 8, 9, 10, 11, 2, 12, 13, 14, 15, 16, 85, 86, 87, 88, 89, 90] (by decide +kernel) (by decide +kernel)
set_option maxRecDepth 20000 in
theorem gX0_countOf_X0_stepsGone : GoodIn wsX0_countOf (wsV RX0 172 RX0 yX0_stepsGone wsX0_stepsGone) := goodIn_app (goodIn_of _ (by decide +kernel)) ggX0_countOf_X0_stepsGone
set_option maxRecDepth 20000 in
theorem ggX0_countOf_X0_allFaultsOf : GoodIn wsX0_countOf wsX0_allFaultsOf := goodIn_r _ [45, 46, 47, 48, 6, 49, 38, 39, 40, 41, 3, 4, 5, 7, 8, 9, 10, 11, 2, 12, 13, 14, 15, 16, 50, 51, 52, 53, 54, 55, 56, 57, 58, 59, 60, 61, 62, 63, 64, 65, 1, 66, 67, 68, 69, 70, 71, 72, 73, 74, 75, 76, 77, 78, 79, 26, 27, 28, 29, 85, 86, 87, 88, 89, 90] (by decide +kernel) (by decide +kernel)
set_option maxRecDepth 20000 in
theorem gX0_countOf_X0_allFaultsOf : GoodIn wsX0_countOf (wsV RX0 201 RX0 yX0_allFaultsOf wsX0_allFaultsOf) := goodIn_app (goodIn_of _ (by decide +kernel)) ggX0_countOf_X0_allFaultsOf
set_option maxRecDepth 20000 in
theorem ggX0_countOf_X0_costOf : GoodIn wsX0_countOf wsX0_costOf := goodIn_r _ [83, 84, 3, 4, 5, 6, 7, 8, 9, 10, 11, 2, 12, 13, 14, 15, 16, 17, 18, 19, 20, 21, 22, 23, 24, 25, 26, 27, 28, 29, 30, 31, 32, 33, 34, 35, 36, 37, 38, 39, 40, 41, 46, 47, 48, 49, 50, 51, 52, 53, 54, 55, 56, 57, 58, 59, 60, 61, 62, 63, 64, 65, 1, 66, 67, 68, 69, 70, 71, 72, 73, 74, 75, 76, 77, 78, 79, 85, 86, 87, 88, 89, 90] (by decide +kernel) (by decide +kernel)
set_option maxRecDepth 20000 in
theorem gX0_countOf_X0_costOf : GoodIn wsX0_countOf (wsV RX0 94 RX0 yX0_costOf wsX0_costOf) := goodIn_app (goodIn_of _ (by decide +kernel)) ggX0_countOf_X0_costOf
theorem dX0_countOf_0 : decode cX0_countOf 0 = .ok (.iload_n 1, 1) := by decide +kernel
theorem dX0_countOf_1 : decode cX0_countOf 1 = .ok (.bipush 6, 2) := by decide +kernel
theorem dX0_countOf_3 : decode cX0_countOf 3 = .ok (.if_icmp .ne 16, 3) := by decide +kernel
theorem dX0_countOf_6 : decode cX0_countOf 6 = .ok (.aload_n 0, 1) := by decide +kernel
theorem dX0_countOf_7 : decode cX0_countOf 7 = .ok (.getfield 13, 3) := by decide +kernel
theorem dX0_countOf_10 : decode cX0_countOf 10 = .ok (.ifCond .eq 7, 3) := by decide +kernel
theorem dX0_countOf_13 : decode cX0_countOf 13 = .ok (.iconst 1, 1) := by decide +kernel
theorem dX0_countOf_14 : decode cX0_countOf 14 = .ok (.goto 4, 3) := by decide +kernel
theorem dX0_countOf_17 : decode cX0_countOf 17 = .ok (.iconst 0, 1) := by decide +kernel
theorem dX0_countOf_18 : decode cX0_countOf 18 = .ok (.ireturn, 1) := by decide +kernel
theorem dX0_countOf_19 : decode cX0_countOf 19 = .ok (.iconst 0, 1) := by decide +kernel
theorem dX0_countOf_20 : decode cX0_countOf 20 = .ok (.istore_n 2, 1) := by decide +kernel
theorem dX0_countOf_21 : decode cX0_countOf 21 = .ok (.iconst 0, 1) := by decide +kernel
theorem dX0_countOf_22 : decode cX0_countOf 22 = .ok (.istore_n 3, 1) := by decide +kernel
theorem dX0_countOf_23 : decode cX0_countOf 23 = .ok (.iload_n 3, 1) := by decide +kernel
theorem dX0_countOf_24 : decode cX0_countOf 24 = .ok (.aload_n 0, 1) := by decide +kernel
theorem dX0_countOf_25 : decode cX0_countOf 25 = .ok (.getfield 7, 3) := by decide +kernel
theorem dX0_countOf_28 : decode cX0_countOf 28 = .ok (.if_icmp .ge 120, 3) := by decide +kernel
theorem dX0_countOf_31 : decode cX0_countOf 31 = .ok (.iload_n 1, 1) := by decide +kernel
theorem dX0_countOf_32 : decode cX0_countOf 32 = .ok (.tableswitch 102 0 4 #[36, 42, 61, 80, 91], 36) := by decide +kernel
theorem dX0_countOf_68 : decode cX0_countOf 68 = .ok (.iinc 2 1, 3) := by decide +kernel
theorem dX0_countOf_71 : decode cX0_countOf 71 = .ok (.goto 71, 3) := by decide +kernel
theorem dX0_countOf_74 : decode cX0_countOf 74 = .ok (.iload_n 2, 1) := by decide +kernel
theorem dX0_countOf_75 : decode cX0_countOf 75 = .ok (.aload_n 0, 1) := by decide +kernel
theorem dX0_countOf_76 : decode cX0_countOf 76 = .ok (.iload_n 3, 1) := by decide +kernel
theorem dX0_countOf_77 : decode cX0_countOf 77 = .ok (.invokevirtual 154, 3) := by decide +kernel
theorem dX0_countOf_80 : decode cX0_countOf 80 = .ok (.ifCond .eq 7, 3) := by decide +kernel
theorem dX0_countOf_83 : decode cX0_countOf 83 = .ok (.iconst 1, 1) := by decide +kernel
theorem dX0_countOf_84 : decode cX0_countOf 84 = .ok (.goto 4, 3) := by decide +kernel
theorem dX0_countOf_87 : decode cX0_countOf 87 = .ok (.iconst 0, 1) := by decide +kernel
theorem dX0_countOf_88 : decode cX0_countOf 88 = .ok (.iadd, 1) := by decide +kernel
theorem dX0_countOf_89 : decode cX0_countOf 89 = .ok (.istore_n 2, 1) := by decide +kernel
theorem dX0_countOf_90 : decode cX0_countOf 90 = .ok (.goto 52, 3) := by decide +kernel
theorem dX0_countOf_93 : decode cX0_countOf 93 = .ok (.iload_n 2, 1) := by decide +kernel
theorem dX0_countOf_94 : decode cX0_countOf 94 = .ok (.aload_n 0, 1) := by decide +kernel
theorem dX0_countOf_95 : decode cX0_countOf 95 = .ok (.iload_n 3, 1) := by decide +kernel
theorem dX0_countOf_96 : decode cX0_countOf 96 = .ok (.invokevirtual 169, 3) := by decide +kernel
theorem dX0_countOf_99 : decode cX0_countOf 99 = .ok (.ifCond .eq 7, 3) := by decide +kernel
theorem dX0_countOf_102 : decode cX0_countOf 102 = .ok (.iconst 1, 1) := by decide +kernel
theorem dX0_countOf_103 : decode cX0_countOf 103 = .ok (.goto 4, 3) := by decide +kernel
theorem dX0_countOf_106 : decode cX0_countOf 106 = .ok (.iconst 0, 1) := by decide +kernel
theorem dX0_countOf_107 : decode cX0_countOf 107 = .ok (.iadd, 1) := by decide +kernel
theorem dX0_countOf_108 : decode cX0_countOf 108 = .ok (.istore_n 2, 1) := by decide +kernel
theorem dX0_countOf_109 : decode cX0_countOf 109 = .ok (.goto 33, 3) := by decide +kernel
theorem dX0_countOf_112 : decode cX0_countOf 112 = .ok (.iload_n 2, 1) := by decide +kernel
theorem dX0_countOf_113 : decode cX0_countOf 113 = .ok (.aload_n 0, 1) := by decide +kernel
theorem dX0_countOf_114 : decode cX0_countOf 114 = .ok (.iload_n 3, 1) := by decide +kernel
theorem dX0_countOf_115 : decode cX0_countOf 115 = .ok (.invokevirtual 172, 3) := by decide +kernel
theorem dX0_countOf_118 : decode cX0_countOf 118 = .ok (.iadd, 1) := by decide +kernel
theorem dX0_countOf_119 : decode cX0_countOf 119 = .ok (.istore_n 2, 1) := by decide +kernel
theorem dX0_countOf_120 : decode cX0_countOf 120 = .ok (.goto 22, 3) := by decide +kernel
theorem dX0_countOf_123 : decode cX0_countOf 123 = .ok (.iload_n 2, 1) := by decide +kernel
theorem dX0_countOf_124 : decode cX0_countOf 124 = .ok (.aload_n 0, 1) := by decide +kernel
theorem dX0_countOf_125 : decode cX0_countOf 125 = .ok (.iload_n 3, 1) := by decide +kernel
theorem dX0_countOf_126 : decode cX0_countOf 126 = .ok (.invokevirtual 201, 3) := by decide +kernel
theorem dX0_countOf_129 : decode cX0_countOf 129 = .ok (.iadd, 1) := by decide +kernel
theorem dX0_countOf_130 : decode cX0_countOf 130 = .ok (.istore_n 2, 1) := by decide +kernel
theorem dX0_countOf_131 : decode cX0_countOf 131 = .ok (.goto 11, 3) := by decide +kernel
theorem dX0_countOf_134 : decode cX0_countOf 134 = .ok (.iload_n 2, 1) := by decide +kernel
theorem dX0_countOf_135 : decode cX0_countOf 135 = .ok (.aload_n 0, 1) := by decide +kernel
theorem dX0_countOf_136 : decode cX0_countOf 136 = .ok (.iload_n 3, 1) := by decide +kernel
theorem dX0_countOf_137 : decode cX0_countOf 137 = .ok (.invokevirtual 94, 3) := by decide +kernel
theorem dX0_countOf_140 : decode cX0_countOf 140 = .ok (.iadd, 1) := by decide +kernel
theorem dX0_countOf_141 : decode cX0_countOf 141 = .ok (.istore_n 2, 1) := by decide +kernel
theorem dX0_countOf_142 : decode cX0_countOf 142 = .ok (.iinc 3 1, 3) := by decide +kernel
theorem dX0_countOf_145 : decode cX0_countOf 145 = .ok (.goto (-122), 3) := by decide +kernel
theorem dX0_countOf_148 : decode cX0_countOf 148 = .ok (.iload_n 2, 1) := by decide +kernel
theorem dX0_countOf_149 : decode cX0_countOf 149 = .ok (.ireturn, 1) := by decide +kernel
