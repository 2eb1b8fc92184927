theorem dX1_init_0 : decode cX1_init 0 = .ok (.aload_n 0, 1) := by decide +kernel
theorem dX1_init_1 : decode cX1_init 1 = .ok (.invokespecial 1, 3) := by decide +kernel
theorem dX1_init_4 : decode cX1_init 4 = .ok (.aload_n 0, 1) := by decide +kernel
theorem dX1_init_5 : decode cX1_init 5 = .ok (.bipush 48, 2) := by decide +kernel
theorem dX1_init_7 : decode cX1_init 7 = .ok (.newarray .int, 2) := by decide +kernel
theorem dX1_init_9 : decode cX1_init 9 = .ok (.putfield 9, 3) := by decide +kernel
theorem dX1_init_12 : decode cX1_init 12 = .ok (.aload_n 0, 1) := by decide +kernel
theorem dX1_init_13 : decode cX1_init 13 = .ok (.bipush 12, 2) := by decide +kernel
theorem dX1_init_15 : decode cX1_init 15 = .ok (.newarray .int, 2) := by decide +kernel
theorem dX1_init_17 : decode cX1_init 17 = .ok (.putfield 13, 3) := by decide +kernel
theorem dX1_init_20 : decode cX1_init 20 = .ok (.aload_n 0, 1) := by decide +kernel
theorem dX1_init_21 : decode cX1_init 21 = .ok (.bipush 8, 2) := by decide +kernel
theorem dX1_init_23 : decode cX1_init 23 = .ok (.newarray .int, 2) := by decide +kernel
theorem dX1_init_25 : decode cX1_init 25 = .ok (.dup, 1) := by decide +kernel
theorem dX1_init_26 : decode cX1_init 26 = .ok (.iconst 0, 1) := by decide +kernel
theorem dX1_init_27 : decode cX1_init 27 = .ok (.iconst 2, 1) := by decide +kernel
theorem dX1_init_28 : decode cX1_init 28 = .ok (.iastore, 1) := by decide +kernel
theorem dX1_init_29 : decode cX1_init 29 = .ok (.dup, 1) := by decide +kernel
theorem dX1_init_30 : decode cX1_init 30 = .ok (.iconst 1, 1) := by decide +kernel
theorem dX1_init_31 : decode cX1_init 31 = .ok (.iconst 2, 1) := by decide +kernel
theorem dX1_init_32 : decode cX1_init 32 = .ok (.iastore, 1) := by decide +kernel
theorem dX1_init_33 : decode cX1_init 33 = .ok (.dup, 1) := by decide +kernel
theorem dX1_init_34 : decode cX1_init 34 = .ok (.iconst 2, 1) := by decide +kernel
theorem dX1_init_35 : decode cX1_init 35 = .ok (.iconst 2, 1) := by decide +kernel
theorem dX1_init_36 : decode cX1_init 36 = .ok (.iastore, 1) := by decide +kernel
theorem dX1_init_37 : decode cX1_init 37 = .ok (.dup, 1) := by decide +kernel
theorem dX1_init_38 : decode cX1_init 38 = .ok (.iconst 3, 1) := by decide +kernel
theorem dX1_init_39 : decode cX1_init 39 = .ok (.iconst 2, 1) := by decide +kernel
theorem dX1_init_40 : decode cX1_init 40 = .ok (.iastore, 1) := by decide +kernel
theorem dX1_init_41 : decode cX1_init 41 = .ok (.dup, 1) := by decide +kernel
theorem dX1_init_42 : decode cX1_init 42 = .ok (.iconst 4, 1) := by decide +kernel
theorem dX1_init_43 : decode cX1_init 43 = .ok (.iconst 2, 1) := by decide +kernel
theorem dX1_init_44 : decode cX1_init 44 = .ok (.iastore, 1) := by decide +kernel
theorem dX1_init_45 : decode cX1_init 45 = .ok (.dup, 1) := by decide +kernel
theorem dX1_init_46 : decode cX1_init 46 = .ok (.iconst 5, 1) := by decide +kernel
theorem dX1_init_47 : decode cX1_init 47 = .ok (.iconst 2, 1) := by decide +kernel
theorem dX1_init_48 : decode cX1_init 48 = .ok (.iastore, 1) := by decide +kernel
theorem dX1_init_49 : decode cX1_init 49 = .ok (.dup, 1) := by decide +kernel
theorem dX1_init_50 : decode cX1_init 50 = .ok (.bipush 6, 2) := by decide +kernel
theorem dX1_init_52 : decode cX1_init 52 = .ok (.iconst 2, 1) := by decide +kernel
theorem dX1_init_53 : decode cX1_init 53 = .ok (.iastore, 1) := by decide +kernel
theorem dX1_init_54 : decode cX1_init 54 = .ok (.dup, 1) := by decide +kernel
theorem dX1_init_55 : decode cX1_init 55 = .ok (.bipush 7, 2) := by decide +kernel
theorem dX1_init_57 : decode cX1_init 57 = .ok (.iconst 2, 1) := by decide +kernel
theorem dX1_init_58 : decode cX1_init 58 = .ok (.iastore, 1) := by decide +kernel
theorem dX1_init_59 : decode cX1_init 59 = .ok (.putfield 16, 3) := by decide +kernel
theorem dX1_init_62 : decode cX1_init 62 = .ok (.return_, 1) := by decide +kernel
theorem dX1_thrown_0 : decode cX1_thrown 0 = .ok (.aload_n 0, 1) := by decide +kernel
theorem dX1_thrown_1 : decode cX1_thrown 1 = .ok (.getfield 19, 3) := by decide +kernel
theorem dX1_thrown_4 : decode cX1_thrown 4 = .ok (.ireturn, 1) := by decide +kernel
theorem dX1_no_0 : decode cX1_no 0 = .ok (.aload_n 0, 1) := by decide +kernel
theorem dX1_no_1 : decode cX1_no 1 = .ok (.iload_n 1, 1) := by decide +kernel
theorem dX1_no_2 : decode cX1_no 2 = .ok (.putfield 19, 3) := by decide +kernel
theorem dX1_no_5 : decode cX1_no 5 = .ok (.iconst 0, 1) := by decide +kernel
theorem dX1_no_6 : decode cX1_no 6 = .ok (.ireturn, 1) := by decide +kernel
theorem dX1_isIn_0 : decode cX1_isIn 0 = .ok (.iload_n 0, 1) := by decide +kernel
theorem dX1_isIn_1 : decode cX1_isIn 1 = .ok (.iload_n 1, 1) := by decide +kernel
theorem dX1_isIn_2 : decode cX1_isIn 2 = .ok (.if_icmp .lt 12, 3) := by decide +kernel
theorem dX1_isIn_5 : decode cX1_isIn 5 = .ok (.iload_n 0, 1) := by decide +kernel
theorem dX1_isIn_6 : decode cX1_isIn 6 = .ok (.iload_n 2, 1) := by decide +kernel
theorem dX1_isIn_7 : decode cX1_isIn 7 = .ok (.if_icmp .gt 7, 3) := by decide +kernel
theorem dX1_isIn_10 : decode cX1_isIn 10 = .ok (.iconst 1, 1) := by decide +kernel
theorem dX1_isIn_11 : decode cX1_isIn 11 = .ok (.goto 4, 3) := by decide +kernel
theorem dX1_isIn_14 : decode cX1_isIn 14 = .ok (.iconst 0, 1) := by decide +kernel
theorem dX1_isIn_15 : decode cX1_isIn 15 = .ok (.ireturn, 1) := by decide +kernel
set_option maxRecDepth 20000 in
theorem ggX1_isChord_X1_isIn : GoodIn wsX1_isChord wsX1_isIn := goodIn_r _ [5] (by decide +kernel) (by decide +kernel)
set_option maxRecDepth 20000 in
theorem gX1_isChord_X1_isIn : GoodIn wsX1_isChord (va_wsS RX1 26 yX1_isIn wsX1_isIn) := goodIn_app (goodIn_of _ (by decide +kernel)) ggX1_isChord_X1_isIn
theorem dX1_isChord_0 : decode cX1_isChord 0 = .ok (.iload_n 1, 1) := by decide +kernel
theorem dX1_isChord_1 : decode cX1_isChord 1 = .ok (.iconst 0, 1) := by decide +kernel
theorem dX1_isChord_2 : decode cX1_isChord 2 = .ok (.aload_n 0, 1) := by decide +kernel
theorem dX1_isChord_3 : decode cX1_isChord 3 = .ok (.getfield 23, 3) := by decide +kernel
theorem dX1_isChord_6 : decode cX1_isChord 6 = .ok (.iconst 1, 1) := by decide +kernel
theorem dX1_isChord_7 : decode cX1_isChord 7 = .ok (.isub, 1) := by decide +kernel
theorem dX1_isChord_8 : decode cX1_isChord 8 = .ok (.invokestatic 26, 3) := by decide +kernel
theorem dX1_isChord_11 : decode cX1_isChord 11 = .ok (.ireturn, 1) := by decide +kernel
set_option maxRecDepth 20000 in
theorem ggX1_isOf_X1_isIn : GoodIn wsX1_isOf wsX1_isIn := goodIn_r _ [6] (by decide +kernel) (by decide +kernel)
set_option maxRecDepth 20000 in
theorem gX1_isOf_X1_isIn : GoodIn wsX1_isOf (va_wsS RX1 26 yX1_isIn wsX1_isIn) := goodIn_app (goodIn_of _ (by decide +kernel)) ggX1_isOf_X1_isIn
theorem dX1_isOf_0 : decode cX1_isOf 0 = .ok (.iload_n 1, 1) := by decide +kernel
theorem dX1_isOf_1 : decode cX1_isOf 1 = .ok (.getstatic 30, 3) := by decide +kernel
theorem dX1_isOf_4 : decode cX1_isOf 4 = .ok (.iload_n 0, 1) := by decide +kernel
theorem dX1_isOf_5 : decode cX1_isOf 5 = .ok (.iaload, 1) := by decide +kernel
theorem dX1_isOf_6 : decode cX1_isOf 6 = .ok (.getstatic 33, 3) := by decide +kernel
theorem dX1_isOf_9 : decode cX1_isOf 9 = .ok (.iload_n 0, 1) := by decide +kernel
theorem dX1_isOf_10 : decode cX1_isOf 10 = .ok (.iaload, 1) := by decide +kernel
theorem dX1_isOf_11 : decode cX1_isOf 11 = .ok (.invokestatic 26, 3) := by decide +kernel
theorem dX1_isOf_14 : decode cX1_isOf 14 = .ok (.ireturn, 1) := by decide +kernel
theorem dX1_at_0 : decode cX1_at 0 = .ok (.aload_n 0, 1) := by decide +kernel
theorem dX1_at_1 : decode cX1_at 1 = .ok (.getfield 9, 3) := by decide +kernel
theorem dX1_at_4 : decode cX1_at 4 = .ok (.iconst 4, 1) := by decide +kernel
theorem dX1_at_5 : decode cX1_at 5 = .ok (.iload_n 1, 1) := by decide +kernel
theorem dX1_at_6 : decode cX1_at 6 = .ok (.imul, 1) := by decide +kernel
theorem dX1_at_7 : decode cX1_at 7 = .ok (.iload_n 2, 1) := by decide +kernel
theorem dX1_at_8 : decode cX1_at 8 = .ok (.iadd, 1) := by decide +kernel
theorem dX1_at_9 : decode cX1_at 9 = .ok (.iaload, 1) := by decide +kernel
theorem dX1_at_10 : decode cX1_at 10 = .ok (.ireturn, 1) := by decide +kernel
theorem dX1_pitchOf_0 : decode cX1_pitchOf 0 = .ok (.bipush 12, 2) := by decide +kernel
theorem dX1_pitchOf_2 : decode cX1_pitchOf 2 = .ok (.iload_n 1, 1) := by decide +kernel
theorem dX1_pitchOf_3 : decode cX1_pitchOf 3 = .ok (.bipush 7, 2) := by decide +kernel
theorem dX1_pitchOf_5 : decode cX1_pitchOf 5 = .ok (.idiv, 1) := by decide +kernel
theorem dX1_pitchOf_6 : decode cX1_pitchOf 6 = .ok (.imul, 1) := by decide +kernel
theorem dX1_pitchOf_7 : decode cX1_pitchOf 7 = .ok (.aload_n 0, 1) := by decide +kernel
theorem dX1_pitchOf_8 : decode cX1_pitchOf 8 = .ok (.getfield 36, 3) := by decide +kernel
theorem dX1_pitchOf_11 : decode cX1_pitchOf 11 = .ok (.ifCond .eq 9, 3) := by decide +kernel
theorem dX1_pitchOf_14 : decode cX1_pitchOf 14 = .ok (.getstatic 40, 3) := by decide +kernel
theorem dX1_pitchOf_17 : decode cX1_pitchOf 17 = .ok (.goto 6, 3) := by decide +kernel
theorem dX1_pitchOf_20 : decode cX1_pitchOf 20 = .ok (.getstatic 43, 3) := by decide +kernel
theorem dX1_pitchOf_23 : decode cX1_pitchOf 23 = .ok (.iload_n 1, 1) := by decide +kernel
theorem dX1_pitchOf_24 : decode cX1_pitchOf 24 = .ok (.bipush 7, 2) := by decide +kernel
theorem dX1_pitchOf_26 : decode cX1_pitchOf 26 = .ok (.irem, 1) := by decide +kernel
theorem dX1_pitchOf_27 : decode cX1_pitchOf 27 = .ok (.iaload, 1) := by decide +kernel
theorem dX1_pitchOf_28 : decode cX1_pitchOf 28 = .ok (.iadd, 1) := by decide +kernel
theorem dX1_pitchOf_29 : decode cX1_pitchOf 29 = .ok (.ireturn, 1) := by decide +kernel
theorem dX1_step_0 : decode cX1_step 0 = .ok (.iload_n 0, 1) := by decide +kernel
theorem dX1_step_1 : decode cX1_step 1 = .ok (.iload_n 1, 1) := by decide +kernel
theorem dX1_step_2 : decode cX1_step 2 = .ok (.isub, 1) := by decide +kernel
theorem dX1_step_3 : decode cX1_step 3 = .ok (.bipush 21, 2) := by decide +kernel
theorem dX1_step_5 : decode cX1_step 5 = .ok (.iadd, 1) := by decide +kernel
theorem dX1_step_6 : decode cX1_step 6 = .ok (.bipush 7, 2) := by decide +kernel
theorem dX1_step_8 : decode cX1_step 8 = .ok (.irem, 1) := by decide +kernel
theorem dX1_step_9 : decode cX1_step 9 = .ok (.ireturn, 1) := by decide +kernel
set_option maxRecDepth 20000 in
theorem ggX1_isSet_X1_at : GoodIn wsX1_isSet wsX1_at := goodIn_r _ [5, 6, 7, 8, 9, 10, 11, 12] (by decide +kernel) (by decide +kernel)
set_option maxRecDepth 20000 in
theorem gX1_isSet_X1_at : GoodIn wsX1_isSet (wsV RX1 46 RX1 yX1_at wsX1_at) := goodIn_app (goodIn_of _ (by decide +kernel)) ggX1_isSet_X1_at
theorem dX1_isSet_0 : decode cX1_isSet 0 = .ok (.aload_n 0, 1) := by decide +kernel
theorem dX1_isSet_1 : decode cX1_isSet 1 = .ok (.iload_n 1, 1) := by decide +kernel
theorem dX1_isSet_2 : decode cX1_isSet 2 = .ok (.iconst 1, 1) := by decide +kernel
theorem dX1_isSet_3 : decode cX1_isSet 3 = .ok (.invokevirtual 46, 3) := by decide +kernel
theorem dX1_isSet_6 : decode cX1_isSet 6 = .ok (.iconst (-1), 1) := by decide +kernel
theorem dX1_isSet_7 : decode cX1_isSet 7 = .ok (.if_icmp .eq 27, 3) := by decide +kernel
theorem dX1_isSet_10 : decode cX1_isSet 10 = .ok (.aload_n 0, 1) := by decide +kernel
theorem dX1_isSet_11 : decode cX1_isSet 11 = .ok (.iload_n 1, 1) := by decide +kernel
theorem dX1_isSet_12 : decode cX1_isSet 12 = .ok (.iconst 2, 1) := by decide +kernel
theorem dX1_isSet_13 : decode cX1_isSet 13 = .ok (.invokevirtual 46, 3) := by decide +kernel
theorem dX1_isSet_16 : decode cX1_isSet 16 = .ok (.iconst (-1), 1) := by decide +kernel
theorem dX1_isSet_17 : decode cX1_isSet 17 = .ok (.if_icmp .eq 17, 3) := by decide +kernel
theorem dX1_isSet_20 : decode cX1_isSet 20 = .ok (.aload_n 0, 1) := by decide +kernel
theorem dX1_isSet_21 : decode cX1_isSet 21 = .ok (.iload_n 1, 1) := by decide +kernel
theorem dX1_isSet_22 : decode cX1_isSet 22 = .ok (.iconst 3, 1) := by decide +kernel
theorem dX1_isSet_23 : decode cX1_isSet 23 = .ok (.invokevirtual 46, 3) := by decide +kernel
theorem dX1_isSet_26 : decode cX1_isSet 26 = .ok (.iconst (-1), 1) := by decide +kernel
theorem dX1_isSet_27 : decode cX1_isSet 27 = .ok (.if_icmp .eq 7, 3) := by decide +kernel
theorem dX1_isSet_30 : decode cX1_isSet 30 = .ok (.iconst 1, 1) := by decide +kernel
theorem dX1_isSet_31 : decode cX1_isSet 31 = .ok (.goto 4, 3) := by decide +kernel
theorem dX1_isSet_34 : decode cX1_isSet 34 = .ok (.iconst 0, 1) := by decide +kernel
theorem dX1_isSet_35 : decode cX1_isSet 35 = .ok (.ireturn, 1) := by decide +kernel
set_option maxRecDepth 20000 in
theorem ggX1_belongs_X1_step : GoodIn wsX1_belongs wsX1_step := goodIn_r _ [5] (by decide +kernel) (by decide +kernel)
set_option maxRecDepth 20000 in
theorem gX1_belongs_X1_step : GoodIn wsX1_belongs (va_wsS RX1 53 yX1_step wsX1_step) := goodIn_app (goodIn_of _ (by decide +kernel)) ggX1_belongs_X1_step
theorem dX1_belongs_0 : decode cX1_belongs 0 = .ok (.getstatic 50, 3) := by decide +kernel
theorem dX1_belongs_3 : decode cX1_belongs 3 = .ok (.iload_n 2, 1) := by decide +kernel
theorem dX1_belongs_4 : decode cX1_belongs 4 = .ok (.iaload, 1) := by decide +kernel
theorem dX1_belongs_5 : decode cX1_belongs 5 = .ok (.iconst 1, 1) := by decide +kernel
theorem dX1_belongs_6 : decode cX1_belongs 6 = .ok (.ior, 1) := by decide +kernel
theorem dX1_belongs_7 : decode cX1_belongs 7 = .ok (.iload_n 0, 1) := by decide +kernel
theorem dX1_belongs_8 : decode cX1_belongs 8 = .ok (.iload_n 1, 1) := by decide +kernel
theorem dX1_belongs_9 : decode cX1_belongs 9 = .ok (.invokestatic 53, 3) := by decide +kernel
theorem dX1_belongs_12 : decode cX1_belongs 12 = .ok (.ishr, 1) := by decide +kernel
theorem dX1_belongs_13 : decode cX1_belongs 13 = .ok (.iconst 1, 1) := by decide +kernel
theorem dX1_belongs_14 : decode cX1_belongs 14 = .ok (.iand, 1) := by decide +kernel
theorem dX1_belongs_15 : decode cX1_belongs 15 = .ok (.iconst 1, 1) := by decide +kernel
theorem dX1_belongs_16 : decode cX1_belongs 16 = .ok (.if_icmp .ne 7, 3) := by decide +kernel
theorem dX1_belongs_19 : decode cX1_belongs 19 = .ok (.iconst 1, 1) := by decide +kernel
theorem dX1_belongs_20 : decode cX1_belongs 20 = .ok (.goto 4, 3) := by decide +kernel
theorem dX1_belongs_23 : decode cX1_belongs 23 = .ok (.iconst 0, 1) := by decide +kernel
theorem dX1_belongs_24 : decode cX1_belongs 24 = .ok (.ireturn, 1) := by decide +kernel
set_option maxRecDepth 20000 in
theorem ggX1_isRight_X1_isSet : GoodIn wsX1_isRight wsX1_isSet := goodIn_r _ [7, 8, 9, 10, 6, 11, 12, 16, 17, 18, 19, 20, 21] (by decide +kernel) (by decide +kernel)
set_option maxRecDepth 20000 in
theorem gX1_isRight_X1_isSet : GoodIn wsX1_isRight (wsV RX1 56 RX1 yX1_isSet wsX1_isSet) := goodIn_app (goodIn_of _ (by decide +kernel)) ggX1_isRight_X1_isSet
set_option maxRecDepth 20000 in
theorem ggX1_isRight_X1_at : GoodIn wsX1_isRight wsX1_at := goodIn_r _ [11, 12, 16, 17, 18, 19, 20, 21] (by decide +kernel) (by decide +kernel)
set_option maxRecDepth 20000 in
theorem gX1_isRight_X1_at : GoodIn wsX1_isRight (wsV RX1 46 RX1 yX1_at wsX1_at) := goodIn_app (goodIn_of _ (by decide +kernel)) ggX1_isRight_X1_at
set_option maxRecDepth 20000 in
theorem ggX1_isRight_X1_step : GoodIn wsX1_isRight wsX1_step := goodIn_r _ [15] (by decide +kernel) (by decide +kernel)
set_option maxRecDepth 20000 in
theorem gX1_isRight_X1_step : GoodIn wsX1_isRight (va_wsS RX1 53 yX1_step wsX1_step) := goodIn_app (goodIn_of _ (by decide +kernel)) ggX1_isRight_X1_step
theorem dX1_isRight_0 : decode cX1_isRight 0 = .ok (.aload_n 0, 1) := by decide +kernel
theorem dX1_isRight_1 : decode cX1_isRight 1 = .ok (.iload_n 1, 1) := by decide +kernel
theorem dX1_isRight_2 : decode cX1_isRight 2 = .ok (.invokevirtual 56, 3) := by decide +kernel
theorem dX1_isRight_5 : decode cX1_isRight 5 = .ok (.ifCond .ne 5, 3) := by decide +kernel
theorem dX1_isRight_8 : decode cX1_isRight 8 = .ok (.iconst 0, 1) := by decide +kernel
theorem dX1_isRight_9 : decode cX1_isRight 9 = .ok (.ireturn, 1) := by decide +kernel
theorem dX1_isRight_10 : decode cX1_isRight 10 = .ok (.iconst 0, 1) := by decide +kernel
theorem dX1_isRight_11 : decode cX1_isRight 11 = .ok (.istore_n 2, 1) := by decide +kernel
theorem dX1_isRight_12 : decode cX1_isRight 12 = .ok (.iconst 1, 1) := by decide +kernel
theorem dX1_isRight_13 : decode cX1_isRight 13 = .ok (.istore_n 3, 1) := by decide +kernel
theorem dX1_isRight_14 : decode cX1_isRight 14 = .ok (.iconst 1, 1) := by decide +kernel
theorem dX1_isRight_15 : decode cX1_isRight 15 = .ok (.istore 4, 2) := by decide +kernel
theorem dX1_isRight_17 : decode cX1_isRight 17 = .ok (.iload 4, 2) := by decide +kernel
theorem dX1_isRight_19 : decode cX1_isRight 19 = .ok (.iconst 4, 1) := by decide +kernel
theorem dX1_isRight_20 : decode cX1_isRight 20 = .ok (.if_icmp .ge 57, 3) := by decide +kernel
theorem dX1_isRight_23 : decode cX1_isRight 23 = .ok (.iload_n 3, 1) := by decide +kernel
theorem dX1_isRight_24 : decode cX1_isRight 24 = .ok (.aload_n 0, 1) := by decide +kernel
theorem dX1_isRight_25 : decode cX1_isRight 25 = .ok (.iload_n 1, 1) := by decide +kernel
theorem dX1_isRight_26 : decode cX1_isRight 26 = .ok (.iload 4, 2) := by decide +kernel
theorem dX1_isRight_28 : decode cX1_isRight 28 = .ok (.invokevirtual 46, 3) := by decide +kernel
theorem dX1_isRight_31 : decode cX1_isRight 31 = .ok (.aload_n 0, 1) := by decide +kernel
theorem dX1_isRight_32 : decode cX1_isRight 32 = .ok (.iload_n 1, 1) := by decide +kernel
theorem dX1_isRight_33 : decode cX1_isRight 33 = .ok (.iload 4, 2) := by decide +kernel
theorem dX1_isRight_35 : decode cX1_isRight 35 = .ok (.iconst 1, 1) := by decide +kernel
theorem dX1_isRight_36 : decode cX1_isRight 36 = .ok (.isub, 1) := by decide +kernel
theorem dX1_isRight_37 : decode cX1_isRight 37 = .ok (.invokevirtual 46, 3) := by decide +kernel
theorem dX1_isRight_40 : decode cX1_isRight 40 = .ok (.if_icmp .lt 7, 3) := by decide +kernel
theorem dX1_isRight_43 : decode cX1_isRight 43 = .ok (.iconst 1, 1) := by decide +kernel
theorem dX1_isRight_44 : decode cX1_isRight 44 = .ok (.goto 4, 3) := by decide +kernel
theorem dX1_isRight_47 : decode cX1_isRight 47 = .ok (.iconst 0, 1) := by decide +kernel
theorem dX1_isRight_48 : decode cX1_isRight 48 = .ok (.iand, 1) := by decide +kernel
theorem dX1_isRight_49 : decode cX1_isRight 49 = .ok (.istore_n 3, 1) := by decide +kernel
theorem dX1_isRight_50 : decode cX1_isRight 50 = .ok (.iload_n 2, 1) := by decide +kernel
theorem dX1_isRight_51 : decode cX1_isRight 51 = .ok (.iconst 1, 1) := by decide +kernel
theorem dX1_isRight_52 : decode cX1_isRight 52 = .ok (.aload_n 0, 1) := by decide +kernel
theorem dX1_isRight_53 : decode cX1_isRight 53 = .ok (.iload_n 1, 1) := by decide +kernel
theorem dX1_isRight_54 : decode cX1_isRight 54 = .ok (.iload 4, 2) := by decide +kernel
theorem dX1_isRight_56 : decode cX1_isRight 56 = .ok (.invokevirtual 46, 3) := by decide +kernel
theorem dX1_isRight_59 : decode cX1_isRight 59 = .ok (.aload_n 0, 1) := by decide +kernel
theorem dX1_isRight_60 : decode cX1_isRight 60 = .ok (.iload_n 1, 1) := by decide +kernel
theorem dX1_isRight_61 : decode cX1_isRight 61 = .ok (.iconst 0, 1) := by decide +kernel
theorem dX1_isRight_62 : decode cX1_isRight 62 = .ok (.invokevirtual 46, 3) := by decide +kernel
theorem dX1_isRight_65 : decode cX1_isRight 65 = .ok (.invokestatic 53, 3) := by decide +kernel
theorem dX1_isRight_68 : decode cX1_isRight 68 = .ok (.ishl, 1) := by decide +kernel
theorem dX1_isRight_69 : decode cX1_isRight 69 = .ok (.ior, 1) := by decide +kernel
theorem dX1_isRight_70 : decode cX1_isRight 70 = .ok (.istore_n 2, 1) := by decide +kernel
theorem dX1_isRight_71 : decode cX1_isRight 71 = .ok (.iinc 4 1, 3) := by decide +kernel
theorem dX1_isRight_74 : decode cX1_isRight 74 = .ok (.goto (-57), 3) := by decide +kernel
theorem dX1_isRight_77 : decode cX1_isRight 77 = .ok (.iload_n 3, 1) := by decide +kernel
theorem dX1_isRight_78 : decode cX1_isRight 78 = .ok (.ifCond .eq 25, 3) := by decide +kernel
theorem dX1_isRight_81 : decode cX1_isRight 81 = .ok (.iload_n 2, 1) := by decide +kernel
theorem dX1_isRight_82 : decode cX1_isRight 82 = .ok (.iconst 1, 1) := by decide +kernel
theorem dX1_isRight_83 : decode cX1_isRight 83 = .ok (.ior, 1) := by decide +kernel
theorem dX1_isRight_84 : decode cX1_isRight 84 = .ok (.getstatic 50, 3) := by decide +kernel
theorem dX1_isRight_87 : decode cX1_isRight 87 = .ok (.aload_n 0, 1) := by decide +kernel
theorem dX1_isRight_88 : decode cX1_isRight 88 = .ok (.getfield 13, 3) := by decide +kernel
theorem dX1_isRight_91 : decode cX1_isRight 91 = .ok (.iload_n 1, 1) := by decide +kernel
theorem dX1_isRight_92 : decode cX1_isRight 92 = .ok (.iaload, 1) := by decide +kernel
theorem dX1_isRight_93 : decode cX1_isRight 93 = .ok (.iaload, 1) := by decide +kernel
theorem dX1_isRight_94 : decode cX1_isRight 94 = .ok (.iconst 1, 1) := by decide +kernel
theorem dX1_isRight_95 : decode cX1_isRight 95 = .ok (.ior, 1) := by decide +kernel
theorem dX1_isRight_96 : decode cX1_isRight 96 = .ok (.if_icmp .ne 7, 3) := by decide +kernel
theorem dX1_isRight_99 : decode cX1_isRight 99 = .ok (.iconst 1, 1) := by decide +kernel
theorem dX1_isRight_100 : decode cX1_isRight 100 = .ok (.goto 4, 3) := by decide +kernel
theorem dX1_isRight_103 : decode cX1_isRight 103 = .ok (.iconst 0, 1) := by decide +kernel
theorem dX1_isRight_104 : decode cX1_isRight 104 = .ok (.ireturn, 1) := by decide +kernel
set_option maxRecDepth 20000 in
theorem ggX1_goes_X1_at : GoodIn wsX1_goes wsX1_at := goodIn_r _ [5, 6, 7, 8, 9, 10, 11, 12] (by decide +kernel) (by decide +kernel)
set_option maxRecDepth 20000 in
theorem gX1_goes_X1_at : GoodIn wsX1_goes (wsV RX1 46 RX1 yX1_at wsX1_at) := goodIn_app (goodIn_of _ (by decide +kernel)) ggX1_goes_X1_at
theorem dX1_goes_0 : decode cX1_goes 0 = .ok (.aload_n 0, 1) := by decide +kernel
theorem dX1_goes_1 : decode cX1_goes 1 = .ok (.iload_n 1, 1) := by decide +kernel
theorem dX1_goes_2 : decode cX1_goes 2 = .ok (.iload_n 2, 1) := by decide +kernel
theorem dX1_goes_3 : decode cX1_goes 3 = .ok (.invokevirtual 46, 3) := by decide +kernel
theorem dX1_goes_6 : decode cX1_goes 6 = .ok (.aload_n 0, 1) := by decide +kernel
theorem dX1_goes_7 : decode cX1_goes 7 = .ok (.iload_n 1, 1) := by decide +kernel
theorem dX1_goes_8 : decode cX1_goes 8 = .ok (.iconst 1, 1) := by decide +kernel
theorem dX1_goes_9 : decode cX1_goes 9 = .ok (.isub, 1) := by decide +kernel
theorem dX1_goes_10 : decode cX1_goes 10 = .ok (.iload_n 2, 1) := by decide +kernel
theorem dX1_goes_11 : decode cX1_goes 11 = .ok (.invokevirtual 46, 3) := by decide +kernel
theorem dX1_goes_14 : decode cX1_goes 14 = .ok (.isub, 1) := by decide +kernel
theorem dX1_goes_15 : decode cX1_goes 15 = .ok (.ireturn, 1) := by decide +kernel
set_option maxRecDepth 20000 in
theorem ggX1_isFifth_X1_at : GoodIn wsX1_isFifth wsX1_at := goodIn_r _ [5, 6, 14, 15, 16, 17, 18, 19] (by decide +kernel) (by decide +kernel)
set_option maxRecDepth 20000 in
theorem gX1_isFifth_X1_at : GoodIn wsX1_isFifth (wsV RX1 46 RX1 yX1_at wsX1_at) := goodIn_app (goodIn_of _ (by decide +kernel)) ggX1_isFifth_X1_at
set_option maxRecDepth 20000 in
theorem ggX1_isFifth_X1_pitchOf : GoodIn wsX1_isFifth wsX1_pitchOf := goodIn_r _ [10, 11, 12, 13, 14, 15, 16, 17, 18, 19] (by decide +kernel) (by decide +kernel)
set_option maxRecDepth 20000 in
theorem gX1_isFifth_X1_pitchOf : GoodIn wsX1_isFifth (wsV RX1 60 RX1 yX1_pitchOf wsX1_pitchOf) := goodIn_app (goodIn_of _ (by decide +kernel)) ggX1_isFifth_X1_pitchOf
theorem dX1_isFifth_0 : decode cX1_isFifth 0 = .ok (.aload_n 0, 1) := by decide +kernel
theorem dX1_isFifth_1 : decode cX1_isFifth 1 = .ok (.aload_n 0, 1) := by decide +kernel
theorem dX1_isFifth_2 : decode cX1_isFifth 2 = .ok (.iload_n 1, 1) := by decide +kernel
theorem dX1_isFifth_3 : decode cX1_isFifth 3 = .ok (.iload_n 3, 1) := by decide +kernel
theorem dX1_isFifth_4 : decode cX1_isFifth 4 = .ok (.invokevirtual 46, 3) := by decide +kernel
theorem dX1_isFifth_7 : decode cX1_isFifth 7 = .ok (.invokevirtual 60, 3) := by decide +kernel
theorem dX1_isFifth_10 : decode cX1_isFifth 10 = .ok (.aload_n 0, 1) := by decide +kernel
theorem dX1_isFifth_11 : decode cX1_isFifth 11 = .ok (.aload_n 0, 1) := by decide +kernel
theorem dX1_isFifth_12 : decode cX1_isFifth 12 = .ok (.iload_n 1, 1) := by decide +kernel
theorem dX1_isFifth_13 : decode cX1_isFifth 13 = .ok (.iload_n 2, 1) := by decide +kernel
theorem dX1_isFifth_14 : decode cX1_isFifth 14 = .ok (.invokevirtual 46, 3) := by decide +kernel
theorem dX1_isFifth_17 : decode cX1_isFifth 17 = .ok (.invokevirtual 60, 3) := by decide +kernel
theorem dX1_isFifth_20 : decode cX1_isFifth 20 = .ok (.isub, 1) := by decide +kernel
theorem dX1_isFifth_21 : decode cX1_isFifth 21 = .ok (.istore 4, 2) := by decide +kernel
theorem dX1_isFifth_23 : decode cX1_isFifth 23 = .ok (.iload 4, 2) := by decide +kernel
theorem dX1_isFifth_25 : decode cX1_isFifth 25 = .ok (.ifCond .le 17, 3) := by decide +kernel
theorem dX1_isFifth_28 : decode cX1_isFifth 28 = .ok (.iload 4, 2) := by decide +kernel
theorem dX1_isFifth_30 : decode cX1_isFifth 30 = .ok (.bipush 12, 2) := by decide +kernel
theorem dX1_isFifth_32 : decode cX1_isFifth 32 = .ok (.irem, 1) := by decide +kernel
theorem dX1_isFifth_33 : decode cX1_isFifth 33 = .ok (.bipush 7, 2) := by decide +kernel
theorem dX1_isFifth_35 : decode cX1_isFifth 35 = .ok (.if_icmp .ne 7, 3) := by decide +kernel
theorem dX1_isFifth_38 : decode cX1_isFifth 38 = .ok (.iconst 1, 1) := by decide +kernel
theorem dX1_isFifth_39 : decode cX1_isFifth 39 = .ok (.goto 4, 3) := by decide +kernel
theorem dX1_isFifth_42 : decode cX1_isFifth 42 = .ok (.iconst 0, 1) := by decide +kernel
theorem dX1_isFifth_43 : decode cX1_isFifth 43 = .ok (.ireturn, 1) := by decide +kernel
set_option maxRecDepth 20000 in
theorem ggX1_isOctave_X1_at : GoodIn wsX1_isOctave wsX1_at := goodIn_r _ [5, 6, 14, 15, 16, 17, 18, 19] (by decide +kernel) (by decide +kernel)
set_option maxRecDepth 20000 in
theorem gX1_isOctave_X1_at : GoodIn wsX1_isOctave (wsV RX1 46 RX1 yX1_at wsX1_at) := goodIn_app (goodIn_of _ (by decide +kernel)) ggX1_isOctave_X1_at
set_option maxRecDepth 20000 in
theorem ggX1_isOctave_X1_pitchOf : GoodIn wsX1_isOctave wsX1_pitchOf := goodIn_r _ [10, 11, 12, 13, 14, 15, 16, 17, 18, 19] (by decide +kernel) (by decide +kernel)
set_option maxRecDepth 20000 in
theorem gX1_isOctave_X1_pitchOf : GoodIn wsX1_isOctave (wsV RX1 60 RX1 yX1_pitchOf wsX1_pitchOf) := goodIn_app (goodIn_of _ (by decide +kernel)) ggX1_isOctave_X1_pitchOf
theorem dX1_isOctave_0 : decode cX1_isOctave 0 = .ok (.aload_n 0, 1) := by decide +kernel
theorem dX1_isOctave_1 : decode cX1_isOctave 1 = .ok (.aload_n 0, 1) := by decide +kernel
theorem dX1_isOctave_2 : decode cX1_isOctave 2 = .ok (.iload_n 1, 1) := by decide +kernel
theorem dX1_isOctave_3 : decode cX1_isOctave 3 = .ok (.iload_n 3, 1) := by decide +kernel
theorem dX1_isOctave_4 : decode cX1_isOctave 4 = .ok (.invokevirtual 46, 3) := by decide +kernel
theorem dX1_isOctave_7 : decode cX1_isOctave 7 = .ok (.invokevirtual 60, 3) := by decide +kernel
theorem dX1_isOctave_10 : decode cX1_isOctave 10 = .ok (.aload_n 0, 1) := by decide +kernel
theorem dX1_isOctave_11 : decode cX1_isOctave 11 = .ok (.aload_n 0, 1) := by decide +kernel
theorem dX1_isOctave_12 : decode cX1_isOctave 12 = .ok (.iload_n 1, 1) := by decide +kernel
theorem dX1_isOctave_13 : decode cX1_isOctave 13 = .ok (.iload_n 2, 1) := by decide +kernel
theorem dX1_isOctave_14 : decode cX1_isOctave 14 = .ok (.invokevirtual 46, 3) := by decide +kernel
theorem dX1_isOctave_17 : decode cX1_isOctave 17 = .ok (.invokevirtual 60, 3) := by decide +kernel
theorem dX1_isOctave_20 : decode cX1_isOctave 20 = .ok (.isub, 1) := by decide +kernel
theorem dX1_isOctave_21 : decode cX1_isOctave 21 = .ok (.bipush 12, 2) := by decide +kernel
theorem dX1_isOctave_23 : decode cX1_isOctave 23 = .ok (.irem, 1) := by decide +kernel
theorem dX1_isOctave_24 : decode cX1_isOctave 24 = .ok (.ifCond .ne 7, 3) := by decide +kernel
theorem dX1_isOctave_27 : decode cX1_isOctave 27 = .ok (.iconst 1, 1) := by decide +kernel
theorem dX1_isOctave_28 : decode cX1_isOctave 28 = .ok (.goto 4, 3) := by decide +kernel
theorem dX1_isOctave_31 : decode cX1_isOctave 31 = .ok (.iconst 0, 1) := by decide +kernel
theorem dX1_isOctave_32 : decode cX1_isOctave 32 = .ok (.ireturn, 1) := by decide +kernel
set_option maxRecDepth 20000 in
theorem ggX1_isPair_X1_isSet : GoodIn wsX1_isPair wsX1_isSet := goodIn_r _ [5, 6, 7, 8, 4, 9, 10, 11, 12, 13, 14, 15, 16] (by decide +kernel) (by decide +kernel)
set_option maxRecDepth 20000 in
theorem gX1_isPair_X1_isSet : GoodIn wsX1_isPair (wsV RX1 56 RX1 yX1_isSet wsX1_isSet) := goodIn_app (goodIn_of _ (by decide +kernel)) ggX1_isPair_X1_isSet
theorem dX1_isPair_0 : decode cX1_isPair 0 = .ok (.iload_n 1, 1) := by decide +kernel
theorem dX1_isPair_1 : decode cX1_isPair 1 = .ok (.ifCond .le 25, 3) := by decide +kernel
theorem dX1_isPair_4 : decode cX1_isPair 4 = .ok (.aload_n 0, 1) := by decide +kernel
theorem dX1_isPair_5 : decode cX1_isPair 5 = .ok (.iload_n 1, 1) := by decide +kernel
theorem dX1_isPair_6 : decode cX1_isPair 6 = .ok (.invokevirtual 56, 3) := by decide +kernel
theorem dX1_isPair_9 : decode cX1_isPair 9 = .ok (.ifCond .eq 17, 3) := by decide +kernel
theorem dX1_isPair_12 : decode cX1_isPair 12 = .ok (.aload_n 0, 1) := by decide +kernel
theorem dX1_isPair_13 : decode cX1_isPair 13 = .ok (.iload_n 1, 1) := by decide +kernel
theorem dX1_isPair_14 : decode cX1_isPair 14 = .ok (.iconst 1, 1) := by decide +kernel
theorem dX1_isPair_15 : decode cX1_isPair 15 = .ok (.isub, 1) := by decide +kernel
theorem dX1_isPair_16 : decode cX1_isPair 16 = .ok (.invokevirtual 56, 3) := by decide +kernel
theorem dX1_isPair_19 : decode cX1_isPair 19 = .ok (.ifCond .eq 7, 3) := by decide +kernel
theorem dX1_isPair_22 : decode cX1_isPair 22 = .ok (.iconst 1, 1) := by decide +kernel
theorem dX1_isPair_23 : decode cX1_isPair 23 = .ok (.goto 4, 3) := by decide +kernel
theorem dX1_isPair_26 : decode cX1_isPair 26 = .ok (.iconst 0, 1) := by decide +kernel
theorem dX1_isPair_27 : decode cX1_isPair 27 = .ok (.ireturn, 1) := by decide +kernel
set_option maxRecDepth 20000 in
theorem ggX1_parallels_X1_goes : GoodIn wsX1_parallels wsX1_goes := goodIn_r _ [5, 6, 7, 8, 4, 9, 10, 26, 27, 28, 29, 30, 31] (by decide +kernel) (by decide +kernel)
set_option maxRecDepth 20000 in
theorem gX1_parallels_X1_goes : GoodIn wsX1_parallels (wsV RX1 64 RX1 yX1_goes wsX1_goes) := goodIn_app (goodIn_of _ (by decide +kernel)) ggX1_parallels_X1_goes
set_option maxRecDepth 20000 in
theorem ggX1_parallels_X1_isFifth : GoodIn wsX1_parallels wsX1_isFifth := goodIn_r _ [14, 6, 7, 8, 4, 9, 10, 15, 16, 17, 18, 19, 20, 21, 26, 27, 28, 29, 30, 31] (by decide +kernel) (by decide +kernel)
set_option maxRecDepth 20000 in
theorem gX1_parallels_X1_isFifth : GoodIn wsX1_parallels (wsV RX1 67 RX1 yX1_isFifth wsX1_isFifth) := goodIn_app (goodIn_of _ (by decide +kernel)) ggX1_parallels_X1_isFifth
set_option maxRecDepth 20000 in
theorem ggX1_parallels_X1_isOctave : GoodIn wsX1_parallels wsX1_isOctave := goodIn_r _ [25, 6, 7, 8, 4, 9, 10, 15, 16, 17, 18, 19, 20, 21, 26, 27, 28, 29, 30, 31] (by decide +kernel) (by decide +kernel)
set_option maxRecDepth 20000 in
theorem gX1_parallels_X1_isOctave : GoodIn wsX1_parallels (wsV RX1 70 RX1 yX1_isOctave wsX1_isOctave) := goodIn_app (goodIn_of _ (by decide +kernel)) ggX1_parallels_X1_isOctave
theorem dX1_parallels_0 : decode cX1_parallels 0 = .ok (.iconst 0, 1) := by decide +kernel
theorem dX1_parallels_1 : decode cX1_parallels 1 = .ok (.istore_n 3, 1) := by decide +kernel
theorem dX1_parallels_2 : decode cX1_parallels 2 = .ok (.iconst 0, 1) := by decide +kernel
theorem dX1_parallels_3 : decode cX1_parallels 3 = .ok (.istore 4, 2) := by decide +kernel
theorem dX1_parallels_5 : decode cX1_parallels 5 = .ok (.iload 4, 2) := by decide +kernel
theorem dX1_parallels_7 : decode cX1_parallels 7 = .ok (.iconst 4, 1) := by decide +kernel
theorem dX1_parallels_8 : decode cX1_parallels 8 = .ok (.if_icmp .ge 117, 3) := by decide +kernel
theorem dX1_parallels_11 : decode cX1_parallels 11 = .ok (.iload 4, 2) := by decide +kernel
theorem dX1_parallels_13 : decode cX1_parallels 13 = .ok (.iconst 1, 1) := by decide +kernel
theorem dX1_parallels_14 : decode cX1_parallels 14 = .ok (.iadd, 1) := by decide +kernel
theorem dX1_parallels_15 : decode cX1_parallels 15 = .ok (.istore 5, 2) := by decide +kernel
theorem dX1_parallels_17 : decode cX1_parallels 17 = .ok (.iload 5, 2) := by decide +kernel
theorem dX1_parallels_19 : decode cX1_parallels 19 = .ok (.iconst 4, 1) := by decide +kernel
theorem dX1_parallels_20 : decode cX1_parallels 20 = .ok (.if_icmp .ge 99, 3) := by decide +kernel
theorem dX1_parallels_23 : decode cX1_parallels 23 = .ok (.aload_n 0, 1) := by decide +kernel
theorem dX1_parallels_24 : decode cX1_parallels 24 = .ok (.iload_n 1, 1) := by decide +kernel
theorem dX1_parallels_25 : decode cX1_parallels 25 = .ok (.iload 4, 2) := by decide +kernel
theorem dX1_parallels_27 : decode cX1_parallels 27 = .ok (.invokevirtual 64, 3) := by decide +kernel
theorem dX1_parallels_30 : decode cX1_parallels 30 = .ok (.ifCond .eq 83, 3) := by decide +kernel
theorem dX1_parallels_33 : decode cX1_parallels 33 = .ok (.aload_n 0, 1) := by decide +kernel
theorem dX1_parallels_34 : decode cX1_parallels 34 = .ok (.iload_n 1, 1) := by decide +kernel
theorem dX1_parallels_35 : decode cX1_parallels 35 = .ok (.iload 5, 2) := by decide +kernel
theorem dX1_parallels_37 : decode cX1_parallels 37 = .ok (.invokevirtual 64, 3) := by decide +kernel
theorem dX1_parallels_40 : decode cX1_parallels 40 = .ok (.ifCond .ne 6, 3) := by decide +kernel
theorem dX1_parallels_43 : decode cX1_parallels 43 = .ok (.goto 70, 3) := by decide +kernel
theorem dX1_parallels_46 : decode cX1_parallels 46 = .ok (.iload_n 3, 1) := by decide +kernel
theorem dX1_parallels_47 : decode cX1_parallels 47 = .ok (.iload_n 2, 1) := by decide +kernel
theorem dX1_parallels_48 : decode cX1_parallels 48 = .ok (.ifCond .eq 32, 3) := by decide +kernel
theorem dX1_parallels_51 : decode cX1_parallels 51 = .ok (.aload_n 0, 1) := by decide +kernel
theorem dX1_parallels_52 : decode cX1_parallels 52 = .ok (.iload_n 1, 1) := by decide +kernel
theorem dX1_parallels_53 : decode cX1_parallels 53 = .ok (.iconst 1, 1) := by decide +kernel
theorem dX1_parallels_54 : decode cX1_parallels 54 = .ok (.isub, 1) := by decide +kernel
theorem dX1_parallels_55 : decode cX1_parallels 55 = .ok (.iload 4, 2) := by decide +kernel
theorem dX1_parallels_57 : decode cX1_parallels 57 = .ok (.iload 5, 2) := by decide +kernel
theorem dX1_parallels_59 : decode cX1_parallels 59 = .ok (.invokevirtual 67, 3) := by decide +kernel
theorem dX1_parallels_62 : decode cX1_parallels 62 = .ok (.ifCond .eq 48, 3) := by decide +kernel
theorem dX1_parallels_65 : decode cX1_parallels 65 = .ok (.aload_n 0, 1) := by decide +kernel
theorem dX1_parallels_66 : decode cX1_parallels 66 = .ok (.iload_n 1, 1) := by decide +kernel
theorem dX1_parallels_67 : decode cX1_parallels 67 = .ok (.iload 4, 2) := by decide +kernel
theorem dX1_parallels_69 : decode cX1_parallels 69 = .ok (.iload 5, 2) := by decide +kernel
theorem dX1_parallels_71 : decode cX1_parallels 71 = .ok (.invokevirtual 67, 3) := by decide +kernel
theorem dX1_parallels_74 : decode cX1_parallels 74 = .ok (.ifCond .eq 36, 3) := by decide +kernel
theorem dX1_parallels_77 : decode cX1_parallels 77 = .ok (.goto 29, 3) := by decide +kernel
theorem dX1_parallels_80 : decode cX1_parallels 80 = .ok (.aload_n 0, 1) := by decide +kernel
theorem dX1_parallels_81 : decode cX1_parallels 81 = .ok (.iload_n 1, 1) := by decide +kernel
theorem dX1_parallels_82 : decode cX1_parallels 82 = .ok (.iconst 1, 1) := by decide +kernel
theorem dX1_parallels_83 : decode cX1_parallels 83 = .ok (.isub, 1) := by decide +kernel
theorem dX1_parallels_84 : decode cX1_parallels 84 = .ok (.iload 4, 2) := by decide +kernel
theorem dX1_parallels_86 : decode cX1_parallels 86 = .ok (.iload 5, 2) := by decide +kernel
theorem dX1_parallels_88 : decode cX1_parallels 88 = .ok (.invokevirtual 70, 3) := by decide +kernel
theorem dX1_parallels_91 : decode cX1_parallels 91 = .ok (.ifCond .eq 19, 3) := by decide +kernel
theorem dX1_parallels_94 : decode cX1_parallels 94 = .ok (.aload_n 0, 1) := by decide +kernel
theorem dX1_parallels_95 : decode cX1_parallels 95 = .ok (.iload_n 1, 1) := by decide +kernel
theorem dX1_parallels_96 : decode cX1_parallels 96 = .ok (.iload 4, 2) := by decide +kernel
theorem dX1_parallels_98 : decode cX1_parallels 98 = .ok (.iload 5, 2) := by decide +kernel
theorem dX1_parallels_100 : decode cX1_parallels 100 = .ok (.invokevirtual 70, 3) := by decide +kernel
theorem dX1_parallels_103 : decode cX1_parallels 103 = .ok (.ifCond .eq 7, 3) := by decide +kernel
theorem dX1_parallels_106 : decode cX1_parallels 106 = .ok (.iconst 1, 1) := by decide +kernel
theorem dX1_parallels_107 : decode cX1_parallels 107 = .ok (.goto 4, 3) := by decide +kernel
theorem dX1_parallels_110 : decode cX1_parallels 110 = .ok (.iconst 0, 1) := by decide +kernel
theorem dX1_parallels_111 : decode cX1_parallels 111 = .ok (.iadd, 1) := by decide +kernel
theorem dX1_parallels_112 : decode cX1_parallels 112 = .ok (.istore_n 3, 1) := by decide +kernel
theorem dX1_parallels_113 : decode cX1_parallels 113 = .ok (.iinc 5 1, 3) := by decide +kernel
theorem dX1_parallels_116 : decode cX1_parallels 116 = .ok (.goto (-99), 3) := by decide +kernel
theorem dX1_parallels_119 : decode cX1_parallels 119 = .ok (.iinc 4 1, 3) := by decide +kernel
theorem dX1_parallels_122 : decode cX1_parallels 122 = .ok (.goto (-117), 3) := by decide +kernel
theorem dX1_parallels_125 : decode cX1_parallels 125 = .ok (.iload_n 3, 1) := by decide +kernel
theorem dX1_parallels_126 : decode cX1_parallels 126 = .ok (.ireturn, 1) := by decide +kernel
set_option maxRecDepth 20000 in
theorem ggX1_isHidden_X1_goes : GoodIn wsX1_isHidden wsX1_goes := goodIn_r _ [9, 10, 11, 12, 8, 13, 14, 30, 31, 32, 33, 34, 35] (by decide +kernel) (by decide +kernel)
set_option maxRecDepth 20000 in
theorem gX1_isHidden_X1_goes : GoodIn wsX1_isHidden (wsV RX1 64 RX1 yX1_goes wsX1_goes) := goodIn_app (goodIn_of _ (by decide +kernel)) ggX1_isHidden_X1_goes
set_option maxRecDepth 20000 in
theorem ggX1_isHidden_X1_isFifth : GoodIn wsX1_isHidden wsX1_isFifth := goodIn_r _ [18, 10, 11, 12, 8, 13, 14, 19, 20, 21, 22, 23, 24, 25, 30, 31, 32, 33, 34, 35] (by decide +kernel) (by decide +kernel)
set_option maxRecDepth 20000 in
theorem gX1_isHidden_X1_isFifth : GoodIn wsX1_isHidden (wsV RX1 67 RX1 yX1_isFifth wsX1_isFifth) := goodIn_app (goodIn_of _ (by decide +kernel)) ggX1_isHidden_X1_isFifth
set_option maxRecDepth 20000 in
theorem ggX1_isHidden_X1_isOctave : GoodIn wsX1_isHidden wsX1_isOctave := goodIn_r _ [29, 10, 11, 12, 8, 13, 14, 19, 20, 21, 22, 23, 24, 25, 30, 31, 32, 33, 34, 35] (by decide +kernel) (by decide +kernel)
set_option maxRecDepth 20000 in
theorem gX1_isHidden_X1_isOctave : GoodIn wsX1_isHidden (wsV RX1 70 RX1 yX1_isOctave wsX1_isOctave) := goodIn_app (goodIn_of _ (by decide +kernel)) ggX1_isHidden_X1_isOctave
theorem dX1_isHidden_0 : decode cX1_isHidden 0 = .ok (.aload_n 0, 1) := by decide +kernel
theorem dX1_isHidden_1 : decode cX1_isHidden 1 = .ok (.iload_n 1, 1) := by decide +kernel
theorem dX1_isHidden_2 : decode cX1_isHidden 2 = .ok (.iconst 0, 1) := by decide +kernel
theorem dX1_isHidden_3 : decode cX1_isHidden 3 = .ok (.invokevirtual 64, 3) := by decide +kernel
theorem dX1_isHidden_6 : decode cX1_isHidden 6 = .ok (.istore_n 2, 1) := by decide +kernel
theorem dX1_isHidden_7 : decode cX1_isHidden 7 = .ok (.aload_n 0, 1) := by decide +kernel
theorem dX1_isHidden_8 : decode cX1_isHidden 8 = .ok (.iload_n 1, 1) := by decide +kernel
theorem dX1_isHidden_9 : decode cX1_isHidden 9 = .ok (.iconst 3, 1) := by decide +kernel
theorem dX1_isHidden_10 : decode cX1_isHidden 10 = .ok (.invokevirtual 64, 3) := by decide +kernel
theorem dX1_isHidden_13 : decode cX1_isHidden 13 = .ok (.istore_n 3, 1) := by decide +kernel
theorem dX1_isHidden_14 : decode cX1_isHidden 14 = .ok (.iload_n 2, 1) := by decide +kernel
theorem dX1_isHidden_15 : decode cX1_isHidden 15 = .ok (.iload_n 3, 1) := by decide +kernel
theorem dX1_isHidden_16 : decode cX1_isHidden 16 = .ok (.imul, 1) := by decide +kernel
theorem dX1_isHidden_17 : decode cX1_isHidden 17 = .ok (.ifCond .le 35, 3) := by decide +kernel
theorem dX1_isHidden_20 : decode cX1_isHidden 20 = .ok (.iload_n 3, 1) := by decide +kernel
theorem dX1_isHidden_21 : decode cX1_isHidden 21 = .ok (.invokestatic 73, 3) := by decide +kernel
theorem dX1_isHidden_24 : decode cX1_isHidden 24 = .ok (.iconst 1, 1) := by decide +kernel
theorem dX1_isHidden_25 : decode cX1_isHidden 25 = .ok (.if_icmp .le 27, 3) := by decide +kernel
theorem dX1_isHidden_28 : decode cX1_isHidden 28 = .ok (.aload_n 0, 1) := by decide +kernel
theorem dX1_isHidden_29 : decode cX1_isHidden 29 = .ok (.iload_n 1, 1) := by decide +kernel
theorem dX1_isHidden_30 : decode cX1_isHidden 30 = .ok (.iconst 0, 1) := by decide +kernel
theorem dX1_isHidden_31 : decode cX1_isHidden 31 = .ok (.iconst 3, 1) := by decide +kernel
theorem dX1_isHidden_32 : decode cX1_isHidden 32 = .ok (.invokevirtual 67, 3) := by decide +kernel
theorem dX1_isHidden_35 : decode cX1_isHidden 35 = .ok (.ifCond .ne 13, 3) := by decide +kernel
theorem dX1_isHidden_38 : decode cX1_isHidden 38 = .ok (.aload_n 0, 1) := by decide +kernel
theorem dX1_isHidden_39 : decode cX1_isHidden 39 = .ok (.iload_n 1, 1) := by decide +kernel
theorem dX1_isHidden_40 : decode cX1_isHidden 40 = .ok (.iconst 0, 1) := by decide +kernel
theorem dX1_isHidden_41 : decode cX1_isHidden 41 = .ok (.iconst 3, 1) := by decide +kernel
theorem dX1_isHidden_42 : decode cX1_isHidden 42 = .ok (.invokevirtual 70, 3) := by decide +kernel
theorem dX1_isHidden_45 : decode cX1_isHidden 45 = .ok (.ifCond .eq 7, 3) := by decide +kernel
theorem dX1_isHidden_48 : decode cX1_isHidden 48 = .ok (.iconst 1, 1) := by decide +kernel
theorem dX1_isHidden_49 : decode cX1_isHidden 49 = .ok (.goto 4, 3) := by decide +kernel
theorem dX1_isHidden_52 : decode cX1_isHidden 52 = .ok (.iconst 0, 1) := by decide +kernel
theorem dX1_isHidden_53 : decode cX1_isHidden 53 = .ok (.ireturn, 1) := by decide +kernel
set_option maxRecDepth 20000 in
theorem ggX1_isFault_X1_goes : GoodIn wsX1_isFault wsX1_goes := goodIn_r _ [10, 11, 12, 13, 9, 14, 15, 19, 20, 21, 22, 23, 24] (by decide +kernel) (by decide +kernel)
set_option maxRecDepth 20000 in
theorem gX1_isFault_X1_goes : GoodIn wsX1_isFault (wsV RX1 64 RX1 yX1_goes wsX1_goes) := goodIn_app (goodIn_of _ (by decide +kernel)) ggX1_isFault_X1_goes
set_option maxRecDepth 20000 in
theorem ggX1_isFault_X1_at : GoodIn wsX1_isFault wsX1_at := goodIn_r _ [14, 15, 19, 20, 21, 22, 23, 24] (by decide +kernel) (by decide +kernel)
set_option maxRecDepth 20000 in
theorem gX1_isFault_X1_at : GoodIn wsX1_isFault (wsV RX1 46 RX1 yX1_at wsX1_at) := goodIn_app (goodIn_of _ (by decide +kernel)) ggX1_isFault_X1_at
set_option maxRecDepth 20000 in
theorem ggX1_isFault_X1_step : GoodIn wsX1_isFault wsX1_step := goodIn_r _ [18] (by decide +kernel) (by decide +kernel)
set_option maxRecDepth 20000 in
theorem gX1_isFault_X1_step : GoodIn wsX1_isFault (va_wsS RX1 53 yX1_step wsX1_step) := goodIn_app (goodIn_of _ (by decide +kernel)) ggX1_isFault_X1_step
theorem dX1_isFault_0 : decode cX1_isFault 0 = .ok (.aload_n 0, 1) := by decide +kernel
theorem dX1_isFault_1 : decode cX1_isFault 1 = .ok (.iload_n 1, 1) := by decide +kernel
theorem dX1_isFault_2 : decode cX1_isFault 2 = .ok (.iload_n 3, 1) := by decide +kernel
theorem dX1_isFault_3 : decode cX1_isFault 3 = .ok (.invokevirtual 64, 3) := by decide +kernel
theorem dX1_isFault_6 : decode cX1_isFault 6 = .ok (.istore 4, 2) := by decide +kernel
theorem dX1_isFault_8 : decode cX1_isFault 8 = .ok (.aload_n 0, 1) := by decide +kernel
theorem dX1_isFault_9 : decode cX1_isFault 9 = .ok (.iload_n 1, 1) := by decide +kernel
theorem dX1_isFault_10 : decode cX1_isFault 10 = .ok (.iconst 1, 1) := by decide +kernel
theorem dX1_isFault_11 : decode cX1_isFault 11 = .ok (.isub, 1) := by decide +kernel
theorem dX1_isFault_12 : decode cX1_isFault 12 = .ok (.iload_n 3, 1) := by decide +kernel
theorem dX1_isFault_13 : decode cX1_isFault 13 = .ok (.invokevirtual 46, 3) := by decide +kernel
theorem dX1_isFault_16 : decode cX1_isFault 16 = .ok (.aload_n 0, 1) := by decide +kernel
theorem dX1_isFault_17 : decode cX1_isFault 17 = .ok (.iload_n 1, 1) := by decide +kernel
theorem dX1_isFault_18 : decode cX1_isFault 18 = .ok (.iconst 1, 1) := by decide +kernel
theorem dX1_isFault_19 : decode cX1_isFault 19 = .ok (.isub, 1) := by decide +kernel
theorem dX1_isFault_20 : decode cX1_isFault 20 = .ok (.iconst 0, 1) := by decide +kernel
theorem dX1_isFault_21 : decode cX1_isFault 21 = .ok (.invokevirtual 46, 3) := by decide +kernel
theorem dX1_isFault_24 : decode cX1_isFault 24 = .ok (.invokestatic 53, 3) := by decide +kernel
theorem dX1_isFault_27 : decode cX1_isFault 27 = .ok (.istore 5, 2) := by decide +kernel
theorem dX1_isFault_29 : decode cX1_isFault 29 = .ok (.iload_n 2, 1) := by decide +kernel
theorem dX1_isFault_30 : decode cX1_isFault 30 = .ok (.tableswitch 176 3 6 #[30, 70, 100, 140], 30) := by decide +kernel
theorem dX1_isFault_60 : decode cX1_isFault 60 = .ok (.aload_n 0, 1) := by decide +kernel
theorem dX1_isFault_61 : decode cX1_isFault 61 = .ok (.getfield 13, 3) := by decide +kernel
theorem dX1_isFault_64 : decode cX1_isFault 64 = .ok (.iload_n 1, 1) := by decide +kernel
theorem dX1_isFault_65 : decode cX1_isFault 65 = .ok (.iaload, 1) := by decide +kernel
theorem dX1_isFault_66 : decode cX1_isFault 66 = .ok (.iconst 4, 1) := by decide +kernel
theorem dX1_isFault_67 : decode cX1_isFault 67 = .ok (.if_icmp .ne 31, 3) := by decide +kernel
theorem dX1_isFault_70 : decode cX1_isFault 70 = .ok (.aload_n 0, 1) := by decide +kernel
theorem dX1_isFault_71 : decode cX1_isFault 71 = .ok (.iload_n 1, 1) := by decide +kernel
theorem dX1_isFault_72 : decode cX1_isFault 72 = .ok (.iload_n 3, 1) := by decide +kernel
theorem dX1_isFault_73 : decode cX1_isFault 73 = .ok (.invokevirtual 46, 3) := by decide +kernel
theorem dX1_isFault_76 : decode cX1_isFault 76 = .ok (.aload_n 0, 1) := by decide +kernel
theorem dX1_isFault_77 : decode cX1_isFault 77 = .ok (.iload_n 1, 1) := by decide +kernel
theorem dX1_isFault_78 : decode cX1_isFault 78 = .ok (.iconst 0, 1) := by decide +kernel
theorem dX1_isFault_79 : decode cX1_isFault 79 = .ok (.invokevirtual 46, 3) := by decide +kernel
theorem dX1_isFault_82 : decode cX1_isFault 82 = .ok (.invokestatic 53, 3) := by decide +kernel
theorem dX1_isFault_85 : decode cX1_isFault 85 = .ok (.iconst 3, 1) := by decide +kernel
theorem dX1_isFault_86 : decode cX1_isFault 86 = .ok (.if_icmp .ne 12, 3) := by decide +kernel
theorem dX1_isFault_89 : decode cX1_isFault 89 = .ok (.iload 4, 2) := by decide +kernel
theorem dX1_isFault_91 : decode cX1_isFault 91 = .ok (.ifCond .eq 7, 3) := by decide +kernel
theorem dX1_isFault_94 : decode cX1_isFault 94 = .ok (.iconst 1, 1) := by decide +kernel
theorem dX1_isFault_95 : decode cX1_isFault 95 = .ok (.goto 4, 3) := by decide +kernel
theorem dX1_isFault_98 : decode cX1_isFault 98 = .ok (.iconst 0, 1) := by decide +kernel
theorem dX1_isFault_99 : decode cX1_isFault 99 = .ok (.ireturn, 1) := by decide +kernel
theorem dX1_isFault_100 : decode cX1_isFault 100 = .ok (.aload_n 0, 1) := by decide +kernel
theorem dX1_isFault_101 : decode cX1_isFault 101 = .ok (.getfield 13, 3) := by decide +kernel
theorem dX1_isFault_104 : decode cX1_isFault 104 = .ok (.iload_n 1, 1) := by decide +kernel
theorem dX1_isFault_105 : decode cX1_isFault 105 = .ok (.iconst 1, 1) := by decide +kernel
theorem dX1_isFault_106 : decode cX1_isFault 106 = .ok (.isub, 1) := by decide +kernel
theorem dX1_isFault_107 : decode cX1_isFault 107 = .ok (.iaload, 1) := by decide +kernel
theorem dX1_isFault_108 : decode cX1_isFault 108 = .ok (.iconst 4, 1) := by decide +kernel
theorem dX1_isFault_109 : decode cX1_isFault 109 = .ok (.if_icmp .ne 19, 3) := by decide +kernel
theorem dX1_isFault_112 : decode cX1_isFault 112 = .ok (.iload 5, 2) := by decide +kernel
theorem dX1_isFault_114 : decode cX1_isFault 114 = .ok (.iconst 3, 1) := by decide +kernel
theorem dX1_isFault_115 : decode cX1_isFault 115 = .ok (.if_icmp .ne 13, 3) := by decide +kernel
theorem dX1_isFault_118 : decode cX1_isFault 118 = .ok (.iload 4, 2) := by decide +kernel
theorem dX1_isFault_120 : decode cX1_isFault 120 = .ok (.iconst (-1), 1) := by decide +kernel
theorem dX1_isFault_121 : decode cX1_isFault 121 = .ok (.if_icmp .eq 7, 3) := by decide +kernel
theorem dX1_isFault_124 : decode cX1_isFault 124 = .ok (.iconst 1, 1) := by decide +kernel
theorem dX1_isFault_125 : decode cX1_isFault 125 = .ok (.goto 4, 3) := by decide +kernel
theorem dX1_isFault_128 : decode cX1_isFault 128 = .ok (.iconst 0, 1) := by decide +kernel
theorem dX1_isFault_129 : decode cX1_isFault 129 = .ok (.ireturn, 1) := by decide +kernel
theorem dX1_isFault_130 : decode cX1_isFault 130 = .ok (.aload_n 0, 1) := by decide +kernel
theorem dX1_isFault_131 : decode cX1_isFault 131 = .ok (.iload_n 1, 1) := by decide +kernel
theorem dX1_isFault_132 : decode cX1_isFault 132 = .ok (.iconst 0, 1) := by decide +kernel
theorem dX1_isFault_133 : decode cX1_isFault 133 = .ok (.invokevirtual 46, 3) := by decide +kernel
theorem dX1_isFault_136 : decode cX1_isFault 136 = .ok (.bipush 7, 2) := by decide +kernel
theorem dX1_isFault_138 : decode cX1_isFault 138 = .ok (.irem, 1) := by decide +kernel
theorem dX1_isFault_139 : decode cX1_isFault 139 = .ok (.ifCond .ne 29, 3) := by decide +kernel
theorem dX1_isFault_142 : decode cX1_isFault 142 = .ok (.aload_n 0, 1) := by decide +kernel
theorem dX1_isFault_143 : decode cX1_isFault 143 = .ok (.iload_n 1, 1) := by decide +kernel
theorem dX1_isFault_144 : decode cX1_isFault 144 = .ok (.iconst 1, 1) := by decide +kernel
theorem dX1_isFault_145 : decode cX1_isFault 145 = .ok (.isub, 1) := by decide +kernel
theorem dX1_isFault_146 : decode cX1_isFault 146 = .ok (.iload_n 3, 1) := by decide +kernel
theorem dX1_isFault_147 : decode cX1_isFault 147 = .ok (.invokevirtual 46, 3) := by decide +kernel
theorem dX1_isFault_150 : decode cX1_isFault 150 = .ok (.bipush 7, 2) := by decide +kernel
theorem dX1_isFault_152 : decode cX1_isFault 152 = .ok (.irem, 1) := by decide +kernel
theorem dX1_isFault_153 : decode cX1_isFault 153 = .ok (.bipush 6, 2) := by decide +kernel
theorem dX1_isFault_155 : decode cX1_isFault 155 = .ok (.if_icmp .ne 13, 3) := by decide +kernel
theorem dX1_isFault_158 : decode cX1_isFault 158 = .ok (.iload 4, 2) := by decide +kernel
theorem dX1_isFault_160 : decode cX1_isFault 160 = .ok (.iconst 1, 1) := by decide +kernel
theorem dX1_isFault_161 : decode cX1_isFault 161 = .ok (.if_icmp .eq 7, 3) := by decide +kernel
theorem dX1_isFault_164 : decode cX1_isFault 164 = .ok (.iconst 1, 1) := by decide +kernel
theorem dX1_isFault_165 : decode cX1_isFault 165 = .ok (.goto 4, 3) := by decide +kernel
theorem dX1_isFault_168 : decode cX1_isFault 168 = .ok (.iconst 0, 1) := by decide +kernel
theorem dX1_isFault_169 : decode cX1_isFault 169 = .ok (.ireturn, 1) := by decide +kernel
theorem dX1_isFault_170 : decode cX1_isFault 170 = .ok (.aload_n 0, 1) := by decide +kernel
theorem dX1_isFault_171 : decode cX1_isFault 171 = .ok (.getfield 13, 3) := by decide +kernel
theorem dX1_isFault_174 : decode cX1_isFault 174 = .ok (.iload_n 1, 1) := by decide +kernel
theorem dX1_isFault_175 : decode cX1_isFault 175 = .ok (.iconst 1, 1) := by decide +kernel
theorem dX1_isFault_176 : decode cX1_isFault 176 = .ok (.isub, 1) := by decide +kernel
theorem dX1_isFault_177 : decode cX1_isFault 177 = .ok (.iaload, 1) := by decide +kernel
theorem dX1_isFault_178 : decode cX1_isFault 178 = .ok (.iconst 3, 1) := by decide +kernel
theorem dX1_isFault_179 : decode cX1_isFault 179 = .ok (.if_icmp .ne 25, 3) := by decide +kernel
theorem dX1_isFault_182 : decode cX1_isFault 182 = .ok (.iload 5, 2) := by decide +kernel
theorem dX1_isFault_184 : decode cX1_isFault 184 = .ok (.bipush 6, 2) := by decide +kernel
theorem dX1_isFault_186 : decode cX1_isFault 186 = .ok (.if_icmp .ne 18, 3) := by decide +kernel
theorem dX1_isFault_189 : decode cX1_isFault 189 = .ok (.iload 4, 2) := by decide +kernel
theorem dX1_isFault_191 : decode cX1_isFault 191 = .ok (.ifCond .eq 13, 3) := by decide +kernel
theorem dX1_isFault_194 : decode cX1_isFault 194 = .ok (.iload 4, 2) := by decide +kernel
theorem dX1_isFault_196 : decode cX1_isFault 196 = .ok (.iconst (-1), 1) := by decide +kernel
theorem dX1_isFault_197 : decode cX1_isFault 197 = .ok (.if_icmp .eq 7, 3) := by decide +kernel
theorem dX1_isFault_200 : decode cX1_isFault 200 = .ok (.iconst 1, 1) := by decide +kernel
theorem dX1_isFault_201 : decode cX1_isFault 201 = .ok (.goto 4, 3) := by decide +kernel
theorem dX1_isFault_204 : decode cX1_isFault 204 = .ok (.iconst 0, 1) := by decide +kernel
theorem dX1_isFault_205 : decode cX1_isFault 205 = .ok (.ireturn, 1) := by decide +kernel
theorem dX1_isFault_206 : decode cX1_isFault 206 = .ok (.iload 4, 2) := by decide +kernel
theorem dX1_isFault_208 : decode cX1_isFault 208 = .ok (.invokestatic 73, 3) := by decide +kernel
theorem dX1_isFault_211 : decode cX1_isFault 211 = .ok (.iconst 4, 1) := by decide +kernel
theorem dX1_isFault_212 : decode cX1_isFault 212 = .ok (.if_icmp .le 7, 3) := by decide +kernel
theorem dX1_isFault_215 : decode cX1_isFault 215 = .ok (.iconst 1, 1) := by decide +kernel
theorem dX1_isFault_216 : decode cX1_isFault 216 = .ok (.goto 4, 3) := by decide +kernel
theorem dX1_isFault_219 : decode cX1_isFault 219 = .ok (.iconst 0, 1) := by decide +kernel
theorem dX1_isFault_220 : decode cX1_isFault 220 = .ok (.ireturn, 1) := by decide +kernel
set_option maxRecDepth 20000 in
theorem ggX1_faultsOf_X1_isPair : GoodIn wsX1_faultsOf wsX1_isPair := goodIn_r _ [5, 6, 7, 8, 4, 9, 10, 11, 12, 13, 14, 54, 55, 56, 57, 58, 59] (by decide +kernel) (by decide +kernel)
set_option maxRecDepth 20000 in
theorem gX1_faultsOf_X1_isPair : GoodIn wsX1_faultsOf (wsV RX1 78 RX1 yX1_isPair wsX1_isPair) := goodIn_app (goodIn_of _ (by decide +kernel)) ggX1_faultsOf_X1_isPair
set_option maxRecDepth 20000 in
theorem ggX1_faultsOf_X1_parallels : GoodIn wsX1_faultsOf wsX1_parallels := goodIn_r _ [18, 19, 20, 21, 4, 22, 10, 11, 12, 13, 14, 23, 24, 25, 26, 27, 28, 29, 30, 31, 32, 33, 34, 35, 36, 37, 54, 55, 56, 57, 58, 59] (by decide +kernel) (by decide +kernel)
set_option maxRecDepth 20000 in
theorem gX1_faultsOf_X1_parallels : GoodIn wsX1_faultsOf (wsV RX1 81 RX1 yX1_parallels wsX1_parallels) := goodIn_app (goodIn_of _ (by decide +kernel)) ggX1_faultsOf_X1_parallels
set_option maxRecDepth 20000 in
theorem ggX1_faultsOf_X1_isHidden : GoodIn wsX1_faultsOf wsX1_isHidden := goodIn_r _ [41, 42, 43, 44, 45, 19, 20, 21, 4, 22, 10, 11, 12, 13, 14, 23, 24, 25, 26, 27, 28, 29, 30, 31, 32, 33, 34, 35, 36, 37, 54, 55, 56, 57, 58, 59] (by decide +kernel) (by decide +kernel)
set_option maxRecDepth 20000 in
theorem gX1_faultsOf_X1_isHidden : GoodIn wsX1_faultsOf (wsV RX1 85 RX1 yX1_isHidden wsX1_isHidden) := goodIn_app (goodIn_of _ (by decide +kernel)) ggX1_faultsOf_X1_isHidden
set_option maxRecDepth 20000 in
theorem ggX1_faultsOf_X1_isFault : GoodIn wsX1_faultsOf wsX1_isFault := goodIn_r _ [49, 50, 42, 43, 44, 45, 19, 20, 21, 4, 22, 10, 11, 12, 13, 14, 51, 52, 53, 54, 55, 56, 57, 58, 59] (by decide +kernel) (by decide +kernel)
set_option maxRecDepth 20000 in
theorem gX1_faultsOf_X1_isFault : GoodIn wsX1_faultsOf (wsV RX1 88 RX1 yX1_isFault wsX1_isFault) := goodIn_app (goodIn_of _ (by decide +kernel)) ggX1_faultsOf_X1_isFault
theorem dX1_faultsOf_0 : decode cX1_faultsOf 0 = .ok (.aload_n 0, 1) := by decide +kernel
theorem dX1_faultsOf_1 : decode cX1_faultsOf 1 = .ok (.iload_n 1, 1) := by decide +kernel
theorem dX1_faultsOf_2 : decode cX1_faultsOf 2 = .ok (.invokevirtual 78, 3) := by decide +kernel
theorem dX1_faultsOf_5 : decode cX1_faultsOf 5 = .ok (.ifCond .ne 5, 3) := by decide +kernel
theorem dX1_faultsOf_8 : decode cX1_faultsOf 8 = .ok (.iconst 0, 1) := by decide +kernel
theorem dX1_faultsOf_9 : decode cX1_faultsOf 9 = .ok (.ireturn, 1) := by decide +kernel
theorem dX1_faultsOf_10 : decode cX1_faultsOf 10 = .ok (.iload_n 2, 1) := by decide +kernel
theorem dX1_faultsOf_11 : decode cX1_faultsOf 11 = .ok (.iconst 2, 1) := by decide +kernel
theorem dX1_faultsOf_12 : decode cX1_faultsOf 12 = .ok (.if_icmp .ge 18, 3) := by decide +kernel
theorem dX1_faultsOf_15 : decode cX1_faultsOf 15 = .ok (.aload_n 0, 1) := by decide +kernel
theorem dX1_faultsOf_16 : decode cX1_faultsOf 16 = .ok (.iload_n 1, 1) := by decide +kernel
theorem dX1_faultsOf_17 : decode cX1_faultsOf 17 = .ok (.iload_n 2, 1) := by decide +kernel
theorem dX1_faultsOf_18 : decode cX1_faultsOf 18 = .ok (.ifCond .ne 7, 3) := by decide +kernel
theorem dX1_faultsOf_21 : decode cX1_faultsOf 21 = .ok (.iconst 1, 1) := by decide +kernel
theorem dX1_faultsOf_22 : decode cX1_faultsOf 22 = .ok (.goto 4, 3) := by decide +kernel
theorem dX1_faultsOf_25 : decode cX1_faultsOf 25 = .ok (.iconst 0, 1) := by decide +kernel
theorem dX1_faultsOf_26 : decode cX1_faultsOf 26 = .ok (.invokevirtual 81, 3) := by decide +kernel
theorem dX1_faultsOf_29 : decode cX1_faultsOf 29 = .ok (.ireturn, 1) := by decide +kernel
theorem dX1_faultsOf_30 : decode cX1_faultsOf 30 = .ok (.iload_n 2, 1) := by decide +kernel
theorem dX1_faultsOf_31 : decode cX1_faultsOf 31 = .ok (.iconst 2, 1) := by decide +kernel
theorem dX1_faultsOf_32 : decode cX1_faultsOf 32 = .ok (.if_icmp .ne 17, 3) := by decide +kernel
theorem dX1_faultsOf_35 : decode cX1_faultsOf 35 = .ok (.aload_n 0, 1) := by decide +kernel
theorem dX1_faultsOf_36 : decode cX1_faultsOf 36 = .ok (.iload_n 1, 1) := by decide +kernel
theorem dX1_faultsOf_37 : decode cX1_faultsOf 37 = .ok (.invokevirtual 85, 3) := by decide +kernel
theorem dX1_faultsOf_40 : decode cX1_faultsOf 40 = .ok (.ifCond .eq 7, 3) := by decide +kernel
theorem dX1_faultsOf_43 : decode cX1_faultsOf 43 = .ok (.iconst 1, 1) := by decide +kernel
theorem dX1_faultsOf_44 : decode cX1_faultsOf 44 = .ok (.goto 4, 3) := by decide +kernel
theorem dX1_faultsOf_47 : decode cX1_faultsOf 47 = .ok (.iconst 0, 1) := by decide +kernel
theorem dX1_faultsOf_48 : decode cX1_faultsOf 48 = .ok (.ireturn, 1) := by decide +kernel
theorem dX1_faultsOf_49 : decode cX1_faultsOf 49 = .ok (.iconst 0, 1) := by decide +kernel
theorem dX1_faultsOf_50 : decode cX1_faultsOf 50 = .ok (.istore_n 3, 1) := by decide +kernel
theorem dX1_faultsOf_51 : decode cX1_faultsOf 51 = .ok (.iconst 1, 1) := by decide +kernel
theorem dX1_faultsOf_52 : decode cX1_faultsOf 52 = .ok (.istore 4, 2) := by decide +kernel
theorem dX1_faultsOf_54 : decode cX1_faultsOf 54 = .ok (.iload 4, 2) := by decide +kernel
theorem dX1_faultsOf_56 : decode cX1_faultsOf 56 = .ok (.iconst 4, 1) := by decide +kernel
theorem dX1_faultsOf_57 : decode cX1_faultsOf 57 = .ok (.if_icmp .ge 28, 3) := by decide +kernel
theorem dX1_faultsOf_60 : decode cX1_faultsOf 60 = .ok (.iload_n 3, 1) := by decide +kernel
theorem dX1_faultsOf_61 : decode cX1_faultsOf 61 = .ok (.aload_n 0, 1) := by decide +kernel
theorem dX1_faultsOf_62 : decode cX1_faultsOf 62 = .ok (.iload_n 1, 1) := by decide +kernel
theorem dX1_faultsOf_63 : decode cX1_faultsOf 63 = .ok (.iload_n 2, 1) := by decide +kernel
theorem dX1_faultsOf_64 : decode cX1_faultsOf 64 = .ok (.iload 4, 2) := by decide +kernel
theorem dX1_faultsOf_66 : decode cX1_faultsOf 66 = .ok (.invokevirtual 88, 3) := by decide +kernel
theorem dX1_faultsOf_69 : decode cX1_faultsOf 69 = .ok (.ifCond .eq 7, 3) := by decide +kernel
theorem dX1_faultsOf_72 : decode cX1_faultsOf 72 = .ok (.iconst 1, 1) := by decide +kernel
theorem dX1_faultsOf_73 : decode cX1_faultsOf 73 = .ok (.goto 4, 3) := by decide +kernel
theorem dX1_faultsOf_76 : decode cX1_faultsOf 76 = .ok (.iconst 0, 1) := by decide +kernel
theorem dX1_faultsOf_77 : decode cX1_faultsOf 77 = .ok (.iadd, 1) := by decide +kernel
theorem dX1_faultsOf_78 : decode cX1_faultsOf 78 = .ok (.istore_n 3, 1) := by decide +kernel
theorem dX1_faultsOf_79 : decode cX1_faultsOf 79 = .ok (.iinc 4 1, 3) := by decide +kernel
theorem dX1_faultsOf_82 : decode cX1_faultsOf 82 = .ok (.goto (-28), 3) := by decide +kernel
theorem dX1_faultsOf_85 : decode cX1_faultsOf 85 = .ok (.iload_n 3, 1) := by decide +kernel
theorem dX1_faultsOf_86 : decode cX1_faultsOf 86 = .ok (.ireturn, 1) := by decide +kernel
set_option maxRecDepth 20000 in
theorem ggX1_steps_X1_isPair : GoodIn wsX1_steps wsX1_isPair := goodIn_r _ [9, 10, 11, 12, 8, 13, 14, 15, 16, 17, 18, 23, 24, 25, 26, 27, 28] (by decide +kernel) (by decide +kernel)
set_option maxRecDepth 20000 in
theorem gX1_steps_X1_isPair : GoodIn wsX1_steps (wsV RX1 78 RX1 yX1_isPair wsX1_isPair) := goodIn_app (goodIn_of _ (by decide +kernel)) ggX1_steps_X1_isPair
set_option maxRecDepth 20000 in
theorem ggX1_steps_X1_goes : GoodIn wsX1_steps wsX1_goes := goodIn_r _ [22, 14, 15, 16, 8, 17, 18, 23, 24, 25, 26, 27, 28] (by decide +kernel) (by decide +kernel)
set_option maxRecDepth 20000 in
theorem gX1_steps_X1_goes : GoodIn wsX1_steps (wsV RX1 64 RX1 yX1_goes wsX1_goes) := goodIn_app (goodIn_of _ (by decide +kernel)) ggX1_steps_X1_goes
theorem dX1_steps_0 : decode cX1_steps 0 = .ok (.iconst 0, 1) := by decide +kernel
theorem dX1_steps_1 : decode cX1_steps 1 = .ok (.istore_n 2, 1) := by decide +kernel
theorem dX1_steps_2 : decode cX1_steps 2 = .ok (.iconst 1, 1) := by decide +kernel
theorem dX1_steps_3 : decode cX1_steps 3 = .ok (.istore_n 3, 1) := by decide +kernel
theorem dX1_steps_4 : decode cX1_steps 4 = .ok (.iload_n 3, 1) := by decide +kernel
theorem dX1_steps_5 : decode cX1_steps 5 = .ok (.iconst 4, 1) := by decide +kernel
theorem dX1_steps_6 : decode cX1_steps 6 = .ok (.if_icmp .ge 29, 3) := by decide +kernel
theorem dX1_steps_9 : decode cX1_steps 9 = .ok (.aload_n 0, 1) := by decide +kernel
theorem dX1_steps_10 : decode cX1_steps 10 = .ok (.iload_n 1, 1) := by decide +kernel
theorem dX1_steps_11 : decode cX1_steps 11 = .ok (.invokevirtual 78, 3) := by decide +kernel
theorem dX1_steps_14 : decode cX1_steps 14 = .ok (.ifCond .eq 21, 3) := by decide +kernel
theorem dX1_steps_17 : decode cX1_steps 17 = .ok (.iload_n 2, 1) := by decide +kernel
theorem dX1_steps_18 : decode cX1_steps 18 = .ok (.aload_n 0, 1) := by decide +kernel
theorem dX1_steps_19 : decode cX1_steps 19 = .ok (.iload_n 1, 1) := by decide +kernel
theorem dX1_steps_20 : decode cX1_steps 20 = .ok (.iload_n 3, 1) := by decide +kernel
theorem dX1_steps_21 : decode cX1_steps 21 = .ok (.invokevirtual 64, 3) := by decide +kernel
theorem dX1_steps_24 : decode cX1_steps 24 = .ok (.invokestatic 73, 3) := by decide +kernel
theorem dX1_steps_27 : decode cX1_steps 27 = .ok (.iadd, 1) := by decide +kernel
theorem dX1_steps_28 : decode cX1_steps 28 = .ok (.istore_n 2, 1) := by decide +kernel
theorem dX1_steps_29 : decode cX1_steps 29 = .ok (.iinc 3 1, 3) := by decide +kernel
theorem dX1_steps_32 : decode cX1_steps 32 = .ok (.goto (-28), 3) := by decide +kernel
theorem dX1_steps_35 : decode cX1_steps 35 = .ok (.iload_n 2, 1) := by decide +kernel
theorem dX1_steps_36 : decode cX1_steps 36 = .ok (.ireturn, 1) := by decide +kernel
set_option maxRecDepth 20000 in
theorem ggX1_cost_X1_isSet : GoodIn wsX1_cost wsX1_isSet := goodIn_r _ [6, 7, 8, 9, 5, 10, 11, 68, 69, 70, 71, 72, 73] (by decide +kernel) (by decide +kernel)
set_option maxRecDepth 20000 in
theorem gX1_cost_X1_isSet : GoodIn wsX1_cost (wsV RX1 56 RX1 yX1_isSet wsX1_isSet) := goodIn_app (goodIn_of _ (by decide +kernel)) ggX1_cost_X1_isSet
set_option maxRecDepth 20000 in
theorem ggX1_cost_X1_steps : GoodIn wsX1_cost wsX1_steps := goodIn_r _ [15, 16, 17, 18, 19, 20, 21, 22, 5, 23, 2, 3, 4, 6, 7, 8, 9, 10, 11, 24, 25, 26, 27, 68, 69, 70, 71, 72, 73] (by decide +kernel) (by decide +kernel)
set_option maxRecDepth 20000 in
theorem gX1_cost_X1_steps : GoodIn wsX1_cost (wsV RX1 91 RX1 yX1_steps wsX1_steps) := goodIn_app (goodIn_of _ (by decide +kernel)) ggX1_cost_X1_steps
set_option maxRecDepth 20000 in
theorem ggX1_cost_X1_isRight : GoodIn wsX1_cost wsX1_isRight := goodIn_r _ [31, 32, 33, 2, 3, 4, 5, 6, 7, 8, 9, 10, 11, 34, 35, 36, 68, 69, 70, 71, 72, 73] (by decide +kernel) (by decide +kernel)
set_option maxRecDepth 20000 in
theorem gX1_cost_X1_isRight : GoodIn wsX1_cost (wsV RX1 94 RX1 yX1_isRight wsX1_isRight) := goodIn_app (goodIn_of _ (by decide +kernel)) ggX1_cost_X1_isRight
set_option maxRecDepth 20000 in
theorem ggX1_cost_X1_faultsOf : GoodIn wsX1_cost wsX1_faultsOf := goodIn_r _ [40, 20, 21, 22, 5, 23, 2, 3, 4, 6, 7, 8, 9, 10, 11, 41, 42, 43, 44, 24, 25, 26, 27, 45, 46, 47, 48, 49, 50, 51, 52, 53, 54, 55, 56, 57, 58, 59, 60, 61, 62, 63, 16, 17, 18, 19, 64, 65, 66, 67, 33, 34, 35, 36, 68, 69, 70, 71, 72, 73] (by decide +kernel) (by decide +kernel)
set_option maxRecDepth 20000 in
theorem gX1_cost_X1_faultsOf : GoodIn wsX1_cost (wsV RX1 97 RX1 yX1_faultsOf wsX1_faultsOf) := goodIn_app (goodIn_of _ (by decide +kernel)) ggX1_cost_X1_faultsOf
theorem dX1_cost_0 : decode cX1_cost 0 = .ok (.aload_n 0, 1) := by decide +kernel
theorem dX1_cost_1 : decode cX1_cost 1 = .ok (.iload_n 1, 1) := by decide +kernel
theorem dX1_cost_2 : decode cX1_cost 2 = .ok (.invokevirtual 56, 3) := by decide +kernel
theorem dX1_cost_5 : decode cX1_cost 5 = .ok (.ifCond .ne 5, 3) := by decide +kernel
theorem dX1_cost_8 : decode cX1_cost 8 = .ok (.iconst 0, 1) := by decide +kernel
theorem dX1_cost_9 : decode cX1_cost 9 = .ok (.ireturn, 1) := by decide +kernel
theorem dX1_cost_10 : decode cX1_cost 10 = .ok (.aload_n 0, 1) := by decide +kernel
theorem dX1_cost_11 : decode cX1_cost 11 = .ok (.iload_n 1, 1) := by decide +kernel
theorem dX1_cost_12 : decode cX1_cost 12 = .ok (.invokevirtual 91, 3) := by decide +kernel
theorem dX1_cost_15 : decode cX1_cost 15 = .ok (.aload_n 0, 1) := by decide +kernel
theorem dX1_cost_16 : decode cX1_cost 16 = .ok (.iload_n 1, 1) := by decide +kernel
theorem dX1_cost_17 : decode cX1_cost 17 = .ok (.invokevirtual 94, 3) := by decide +kernel
theorem dX1_cost_20 : decode cX1_cost 20 = .ok (.ifCond .eq 7, 3) := by decide +kernel
theorem dX1_cost_23 : decode cX1_cost 23 = .ok (.iconst 0, 1) := by decide +kernel
theorem dX1_cost_24 : decode cX1_cost 24 = .ok (.goto 5, 3) := by decide +kernel
theorem dX1_cost_27 : decode cX1_cost 27 = .ok (.bipush 30, 2) := by decide +kernel
theorem dX1_cost_29 : decode cX1_cost 29 = .ok (.iadd, 1) := by decide +kernel
theorem dX1_cost_30 : decode cX1_cost 30 = .ok (.istore_n 2, 1) := by decide +kernel
theorem dX1_cost_31 : decode cX1_cost 31 = .ok (.iconst 0, 1) := by decide +kernel
theorem dX1_cost_32 : decode cX1_cost 32 = .ok (.istore_n 3, 1) := by decide +kernel
theorem dX1_cost_33 : decode cX1_cost 33 = .ok (.iload_n 3, 1) := by decide +kernel
theorem dX1_cost_34 : decode cX1_cost 34 = .ok (.bipush 8, 2) := by decide +kernel
theorem dX1_cost_36 : decode cX1_cost 36 = .ok (.if_icmp .ge 25, 3) := by decide +kernel
theorem dX1_cost_39 : decode cX1_cost 39 = .ok (.iload_n 2, 1) := by decide +kernel
theorem dX1_cost_40 : decode cX1_cost 40 = .ok (.aload_n 0, 1) := by decide +kernel
theorem dX1_cost_41 : decode cX1_cost 41 = .ok (.getfield 16, 3) := by decide +kernel
theorem dX1_cost_44 : decode cX1_cost 44 = .ok (.iload_n 3, 1) := by decide +kernel
theorem dX1_cost_45 : decode cX1_cost 45 = .ok (.iaload, 1) := by decide +kernel
theorem dX1_cost_46 : decode cX1_cost 46 = .ok (.aload_n 0, 1) := by decide +kernel
theorem dX1_cost_47 : decode cX1_cost 47 = .ok (.iload_n 1, 1) := by decide +kernel
theorem dX1_cost_48 : decode cX1_cost 48 = .ok (.iload_n 3, 1) := by decide +kernel
theorem dX1_cost_49 : decode cX1_cost 49 = .ok (.invokevirtual 97, 3) := by decide +kernel
theorem dX1_cost_52 : decode cX1_cost 52 = .ok (.imul, 1) := by decide +kernel
theorem dX1_cost_53 : decode cX1_cost 53 = .ok (.iadd, 1) := by decide +kernel
theorem dX1_cost_54 : decode cX1_cost 54 = .ok (.istore_n 2, 1) := by decide +kernel
theorem dX1_cost_55 : decode cX1_cost 55 = .ok (.iinc 3 1, 3) := by decide +kernel
theorem dX1_cost_58 : decode cX1_cost 58 = .ok (.goto (-25), 3) := by decide +kernel
theorem dX1_cost_61 : decode cX1_cost 61 = .ok (.iload_n 2, 1) := by decide +kernel
theorem dX1_cost_62 : decode cX1_cost 62 = .ok (.ireturn, 1) := by decide +kernel
theorem dX1_let_0 : decode cX1_let 0 = .ok (.aload_n 0, 1) := by decide +kernel
theorem dX1_let_1 : decode cX1_let 1 = .ok (.getfield 9, 3) := by decide +kernel
theorem dX1_let_4 : decode cX1_let 4 = .ok (.iconst 4, 1) := by decide +kernel
theorem dX1_let_5 : decode cX1_let 5 = .ok (.iload_n 1, 1) := by decide +kernel
theorem dX1_let_6 : decode cX1_let 6 = .ok (.imul, 1) := by decide +kernel
theorem dX1_let_7 : decode cX1_let 7 = .ok (.iconst 1, 1) := by decide +kernel
theorem dX1_let_8 : decode cX1_let 8 = .ok (.iadd, 1) := by decide +kernel
theorem dX1_let_9 : decode cX1_let 9 = .ok (.iload_n 2, 1) := by decide +kernel
theorem dX1_let_10 : decode cX1_let 10 = .ok (.iastore, 1) := by decide +kernel
theorem dX1_let_11 : decode cX1_let 11 = .ok (.aload_n 0, 1) := by decide +kernel
theorem dX1_let_12 : decode cX1_let 12 = .ok (.getfield 9, 3) := by decide +kernel
theorem dX1_let_15 : decode cX1_let 15 = .ok (.iconst 4, 1) := by decide +kernel
theorem dX1_let_16 : decode cX1_let 16 = .ok (.iload_n 1, 1) := by decide +kernel
theorem dX1_let_17 : decode cX1_let 17 = .ok (.imul, 1) := by decide +kernel
theorem dX1_let_18 : decode cX1_let 18 = .ok (.iconst 2, 1) := by decide +kernel
theorem dX1_let_19 : decode cX1_let 19 = .ok (.iadd, 1) := by decide +kernel
theorem dX1_let_20 : decode cX1_let 20 = .ok (.iload_n 3, 1) := by decide +kernel
theorem dX1_let_21 : decode cX1_let 21 = .ok (.iastore, 1) := by decide +kernel
theorem dX1_let_22 : decode cX1_let 22 = .ok (.aload_n 0, 1) := by decide +kernel
theorem dX1_let_23 : decode cX1_let 23 = .ok (.getfield 9, 3) := by decide +kernel
theorem dX1_let_26 : decode cX1_let 26 = .ok (.iconst 4, 1) := by decide +kernel
theorem dX1_let_27 : decode cX1_let 27 = .ok (.iload_n 1, 1) := by decide +kernel
theorem dX1_let_28 : decode cX1_let 28 = .ok (.imul, 1) := by decide +kernel
theorem dX1_let_29 : decode cX1_let 29 = .ok (.iconst 3, 1) := by decide +kernel
theorem dX1_let_30 : decode cX1_let 30 = .ok (.iadd, 1) := by decide +kernel
theorem dX1_let_31 : decode cX1_let 31 = .ok (.iload 4, 2) := by decide +kernel
theorem dX1_let_33 : decode cX1_let 33 = .ok (.iastore, 1) := by decide +kernel
theorem dX1_let_34 : decode cX1_let 34 = .ok (.return_, 1) := by decide +kernel
set_option maxRecDepth 20000 in
theorem ggX1_led_X1_at : GoodIn wsX1_led wsX1_at := goodIn_r _ [14, 15, 86, 87, 88, 89, 90, 91] (by decide +kernel) (by decide +kernel)
set_option maxRecDepth 20000 in
theorem gX1_led_X1_at : GoodIn wsX1_led (wsV RX1 46 RX1 yX1_at wsX1_at) := goodIn_app (goodIn_of _ (by decide +kernel)) ggX1_led_X1_at
set_option maxRecDepth 20000 in
theorem ggX1_led_X1_belongs : GoodIn wsX1_led wsX1_belongs := goodIn_r _ [18, 19, 20, 21, 13, 22] (by decide +kernel) (by decide +kernel)
set_option maxRecDepth 20000 in
theorem gX1_led_X1_belongs : GoodIn wsX1_led (va_wsS RX1 100 yX1_belongs wsX1_belongs) := goodIn_app (goodIn_of _ (by decide +kernel)) ggX1_led_X1_belongs
set_option maxRecDepth 20000 in
theorem ggX1_led_X1_let : GoodIn wsX1_led wsX1_let := goodIn_r _ [26, 15, 86, 87, 88, 89, 90, 91] (by decide +kernel) (by decide +kernel)
set_option maxRecDepth 20000 in
theorem gX1_led_X1_let : GoodIn wsX1_led (wsV RX1 106 RX1 yX1_let wsX1_let) := goodIn_app (goodIn_of _ (by decide +kernel)) ggX1_led_X1_let
set_option maxRecDepth 20000 in
theorem ggX1_led_X1_isRight : GoodIn wsX1_led wsX1_isRight := goodIn_r _ [30, 19, 4, 31, 32, 33, 13, 34, 10, 11, 12, 14, 15, 20, 21, 22, 86, 87, 88, 89, 90, 91] (by decide +kernel) (by decide +kernel)
set_option maxRecDepth 20000 in
theorem gX1_led_X1_isRight : GoodIn wsX1_led (wsV RX1 94 RX1 yX1_isRight wsX1_isRight) := goodIn_app (goodIn_of _ (by decide +kernel)) ggX1_led_X1_isRight
set_option maxRecDepth 20000 in
theorem ggX1_led_X1_cost : GoodIn wsX1_led wsX1_cost := goodIn_r _ [38, 39, 31, 32, 33, 13, 34, 10, 11, 12, 14, 15, 40, 41, 42, 43, 44, 45, 7, 46, 47, 48, 49, 50, 51, 52, 53, 54, 27, 28, 29, 30, 19, 4, 20, 21, 22, 55, 56, 57, 58, 59, 60, 61, 62, 63, 64, 65, 66, 67, 68, 69, 70, 71, 72, 73, 74, 75, 76, 77, 78, 79, 80, 81, 82, 83, 84, 85, 86, 87, 88, 89, 90, 91] (by decide +kernel) (by decide +kernel)
set_option maxRecDepth 20000 in
theorem gX1_led_X1_cost : GoodIn wsX1_led (wsV RX1 110 RX1 yX1_cost wsX1_cost) := goodIn_app (goodIn_of _ (by decide +kernel)) ggX1_led_X1_cost
theorem dX1_led_0 : decode cX1_led 0 = .ok (.iconst 3, 1) := by decide +kernel
theorem dX1_led_1 : decode cX1_led 1 = .ok (.newarray .int, 2) := by decide +kernel
theorem dX1_led_3 : decode cX1_led 3 = .ok (.dup, 1) := by decide +kernel
theorem dX1_led_4 : decode cX1_led 4 = .ok (.iconst 0, 1) := by decide +kernel
theorem dX1_led_5 : decode cX1_led 5 = .ok (.aload_n 0, 1) := by decide +kernel
theorem dX1_led_6 : decode cX1_led 6 = .ok (.iload_n 1, 1) := by decide +kernel
theorem dX1_led_7 : decode cX1_led 7 = .ok (.iconst 1, 1) := by decide +kernel
theorem dX1_led_8 : decode cX1_led 8 = .ok (.invokevirtual 46, 3) := by decide +kernel
theorem dX1_led_11 : decode cX1_led 11 = .ok (.iastore, 1) := by decide +kernel
theorem dX1_led_12 : decode cX1_led 12 = .ok (.dup, 1) := by decide +kernel
theorem dX1_led_13 : decode cX1_led 13 = .ok (.iconst 1, 1) := by decide +kernel
theorem dX1_led_14 : decode cX1_led 14 = .ok (.aload_n 0, 1) := by decide +kernel
theorem dX1_led_15 : decode cX1_led 15 = .ok (.iload_n 1, 1) := by decide +kernel
theorem dX1_led_16 : decode cX1_led 16 = .ok (.iconst 2, 1) := by decide +kernel
theorem dX1_led_17 : decode cX1_led 17 = .ok (.invokevirtual 46, 3) := by decide +kernel
theorem dX1_led_20 : decode cX1_led 20 = .ok (.iastore, 1) := by decide +kernel
theorem dX1_led_21 : decode cX1_led 21 = .ok (.dup, 1) := by decide +kernel
theorem dX1_led_22 : decode cX1_led 22 = .ok (.iconst 2, 1) := by decide +kernel
theorem dX1_led_23 : decode cX1_led 23 = .ok (.aload_n 0, 1) := by decide +kernel
theorem dX1_led_24 : decode cX1_led 24 = .ok (.iload_n 1, 1) := by decide +kernel
theorem dX1_led_25 : decode cX1_led 25 = .ok (.iconst 3, 1) := by decide +kernel
theorem dX1_led_26 : decode cX1_led 26 = .ok (.invokevirtual 46, 3) := by decide +kernel
theorem dX1_led_29 : decode cX1_led 29 = .ok (.iastore, 1) := by decide +kernel
theorem dX1_led_30 : decode cX1_led 30 = .ok (.astore_n 2, 1) := by decide +kernel
theorem dX1_led_31 : decode cX1_led 31 = .ok (.iconst 3, 1) := by decide +kernel
theorem dX1_led_32 : decode cX1_led 32 = .ok (.newarray .int, 2) := by decide +kernel
theorem dX1_led_34 : decode cX1_led 34 = .ok (.dup, 1) := by decide +kernel
theorem dX1_led_35 : decode cX1_led 35 = .ok (.iconst 0, 1) := by decide +kernel
theorem dX1_led_36 : decode cX1_led 36 = .ok (.iconst (-1), 1) := by decide +kernel
theorem dX1_led_37 : decode cX1_led 37 = .ok (.iastore, 1) := by decide +kernel
theorem dX1_led_38 : decode cX1_led 38 = .ok (.dup, 1) := by decide +kernel
theorem dX1_led_39 : decode cX1_led 39 = .ok (.iconst 1, 1) := by decide +kernel
theorem dX1_led_40 : decode cX1_led 40 = .ok (.iconst 0, 1) := by decide +kernel
theorem dX1_led_41 : decode cX1_led 41 = .ok (.iastore, 1) := by decide +kernel
theorem dX1_led_42 : decode cX1_led 42 = .ok (.dup, 1) := by decide +kernel
theorem dX1_led_43 : decode cX1_led 43 = .ok (.iconst 2, 1) := by decide +kernel
theorem dX1_led_44 : decode cX1_led 44 = .ok (.iconst 0, 1) := by decide +kernel
theorem dX1_led_45 : decode cX1_led 45 = .ok (.iastore, 1) := by decide +kernel
theorem dX1_led_46 : decode cX1_led 46 = .ok (.astore_n 3, 1) := by decide +kernel
theorem dX1_led_47 : decode cX1_led 47 = .ok (.getstatic 30, 3) := by decide +kernel
theorem dX1_led_50 : decode cX1_led 50 = .ok (.iconst 1, 1) := by decide +kernel
theorem dX1_led_51 : decode cX1_led 51 = .ok (.iaload, 1) := by decide +kernel
theorem dX1_led_52 : decode cX1_led 52 = .ok (.istore 4, 2) := by decide +kernel
theorem dX1_led_54 : decode cX1_led 54 = .ok (.iload 4, 2) := by decide +kernel
theorem dX1_led_56 : decode cX1_led 56 = .ok (.getstatic 33, 3) := by decide +kernel
theorem dX1_led_59 : decode cX1_led 59 = .ok (.iconst 1, 1) := by decide +kernel
theorem dX1_led_60 : decode cX1_led 60 = .ok (.iaload, 1) := by decide +kernel
theorem dX1_led_61 : decode cX1_led 61 = .ok (.if_icmp .gt 210, 3) := by decide +kernel
theorem dX1_led_64 : decode cX1_led 64 = .ok (.iload 4, 2) := by decide +kernel
theorem dX1_led_66 : decode cX1_led 66 = .ok (.aload_n 0, 1) := by decide +kernel
theorem dX1_led_67 : decode cX1_led 67 = .ok (.iload_n 1, 1) := by decide +kernel
theorem dX1_led_68 : decode cX1_led 68 = .ok (.iconst 0, 1) := by decide +kernel
theorem dX1_led_69 : decode cX1_led 69 = .ok (.invokevirtual 46, 3) := by decide +kernel
theorem dX1_led_72 : decode cX1_led 72 = .ok (.aload_n 0, 1) := by decide +kernel
theorem dX1_led_73 : decode cX1_led 73 = .ok (.getfield 13, 3) := by decide +kernel
theorem dX1_led_76 : decode cX1_led 76 = .ok (.iload_n 1, 1) := by decide +kernel
theorem dX1_led_77 : decode cX1_led 77 = .ok (.iaload, 1) := by decide +kernel
theorem dX1_led_78 : decode cX1_led 78 = .ok (.invokestatic 100, 3) := by decide +kernel
theorem dX1_led_81 : decode cX1_led 81 = .ok (.ifCond .ne 6, 3) := by decide +kernel
theorem dX1_led_84 : decode cX1_led 84 = .ok (.goto 181, 3) := by decide +kernel
theorem dX1_led_87 : decode cX1_led 87 = .ok (.iload 4, 2) := by decide +kernel
theorem dX1_led_89 : decode cX1_led 89 = .ok (.getstatic 30, 3) := by decide +kernel
theorem dX1_led_92 : decode cX1_led 92 = .ok (.iconst 2, 1) := by decide +kernel
theorem dX1_led_93 : decode cX1_led 93 = .ok (.iaload, 1) := by decide +kernel
theorem dX1_led_94 : decode cX1_led 94 = .ok (.invokestatic 103, 3) := by decide +kernel
theorem dX1_led_97 : decode cX1_led 97 = .ok (.istore 5, 2) := by decide +kernel
theorem dX1_led_99 : decode cX1_led 99 = .ok (.iload 5, 2) := by decide +kernel
theorem dX1_led_101 : decode cX1_led 101 = .ok (.getstatic 33, 3) := by decide +kernel
theorem dX1_led_104 : decode cX1_led 104 = .ok (.iconst 2, 1) := by decide +kernel
theorem dX1_led_105 : decode cX1_led 105 = .ok (.iaload, 1) := by decide +kernel
theorem dX1_led_106 : decode cX1_led 106 = .ok (.if_icmp .gt 159, 3) := by decide +kernel
theorem dX1_led_109 : decode cX1_led 109 = .ok (.iload 5, 2) := by decide +kernel
theorem dX1_led_111 : decode cX1_led 111 = .ok (.aload_n 0, 1) := by decide +kernel
theorem dX1_led_112 : decode cX1_led 112 = .ok (.iload_n 1, 1) := by decide +kernel
theorem dX1_led_113 : decode cX1_led 113 = .ok (.iconst 0, 1) := by decide +kernel
theorem dX1_led_114 : decode cX1_led 114 = .ok (.invokevirtual 46, 3) := by decide +kernel
theorem dX1_led_117 : decode cX1_led 117 = .ok (.aload_n 0, 1) := by decide +kernel
theorem dX1_led_118 : decode cX1_led 118 = .ok (.getfield 13, 3) := by decide +kernel
theorem dX1_led_121 : decode cX1_led 121 = .ok (.iload_n 1, 1) := by decide +kernel
theorem dX1_led_122 : decode cX1_led 122 = .ok (.iaload, 1) := by decide +kernel
theorem dX1_led_123 : decode cX1_led 123 = .ok (.invokestatic 100, 3) := by decide +kernel
theorem dX1_led_126 : decode cX1_led 126 = .ok (.ifCond .ne 6, 3) := by decide +kernel
theorem dX1_led_129 : decode cX1_led 129 = .ok (.goto 130, 3) := by decide +kernel
theorem dX1_led_132 : decode cX1_led 132 = .ok (.iload 5, 2) := by decide +kernel
theorem dX1_led_134 : decode cX1_led 134 = .ok (.getstatic 30, 3) := by decide +kernel
theorem dX1_led_137 : decode cX1_led 137 = .ok (.iconst 3, 1) := by decide +kernel
theorem dX1_led_138 : decode cX1_led 138 = .ok (.iaload, 1) := by decide +kernel
theorem dX1_led_139 : decode cX1_led 139 = .ok (.invokestatic 103, 3) := by decide +kernel
theorem dX1_led_142 : decode cX1_led 142 = .ok (.istore 6, 2) := by decide +kernel
theorem dX1_led_144 : decode cX1_led 144 = .ok (.iload 6, 2) := by decide +kernel
theorem dX1_led_146 : decode cX1_led 146 = .ok (.getstatic 33, 3) := by decide +kernel
theorem dX1_led_149 : decode cX1_led 149 = .ok (.iconst 3, 1) := by decide +kernel
theorem dX1_led_150 : decode cX1_led 150 = .ok (.iaload, 1) := by decide +kernel
theorem dX1_led_151 : decode cX1_led 151 = .ok (.if_icmp .gt 108, 3) := by decide +kernel
theorem dX1_led_154 : decode cX1_led 154 = .ok (.aload_n 0, 1) := by decide +kernel
theorem dX1_led_155 : decode cX1_led 155 = .ok (.iload_n 1, 1) := by decide +kernel
theorem dX1_led_156 : decode cX1_led 156 = .ok (.iload 4, 2) := by decide +kernel
theorem dX1_led_158 : decode cX1_led 158 = .ok (.iload 5, 2) := by decide +kernel
theorem dX1_led_160 : decode cX1_led 160 = .ok (.iload 6, 2) := by decide +kernel
theorem dX1_led_162 : decode cX1_led 162 = .ok (.invokevirtual 106, 3) := by decide +kernel
theorem dX1_led_165 : decode cX1_led 165 = .ok (.aload_n 0, 1) := by decide +kernel
theorem dX1_led_166 : decode cX1_led 166 = .ok (.iload_n 1, 1) := by decide +kernel
theorem dX1_led_167 : decode cX1_led 167 = .ok (.invokevirtual 94, 3) := by decide +kernel
theorem dX1_led_170 : decode cX1_led 170 = .ok (.ifCond .ne 6, 3) := by decide +kernel
theorem dX1_led_173 : decode cX1_led 173 = .ok (.goto 80, 3) := by decide +kernel
theorem dX1_led_176 : decode cX1_led 176 = .ok (.aload_n 3, 1) := by decide +kernel
theorem dX1_led_177 : decode cX1_led 177 = .ok (.iconst 2, 1) := by decide +kernel
theorem dX1_led_178 : decode cX1_led 178 = .ok (.dup2, 1) := by decide +kernel
theorem dX1_led_179 : decode cX1_led 179 = .ok (.iaload, 1) := by decide +kernel
theorem dX1_led_180 : decode cX1_led 180 = .ok (.iconst 1, 1) := by decide +kernel
theorem dX1_led_181 : decode cX1_led 181 = .ok (.iadd, 1) := by decide +kernel
theorem dX1_led_182 : decode cX1_led 182 = .ok (.iastore, 1) := by decide +kernel
theorem dX1_led_183 : decode cX1_led 183 = .ok (.aload_n 0, 1) := by decide +kernel
theorem dX1_led_184 : decode cX1_led 184 = .ok (.iload_n 1, 1) := by decide +kernel
theorem dX1_led_185 : decode cX1_led 185 = .ok (.invokevirtual 110, 3) := by decide +kernel
theorem dX1_led_188 : decode cX1_led 188 = .ok (.iload_n 1, 1) := by decide +kernel
theorem dX1_led_189 : decode cX1_led 189 = .ok (.iconst 1, 1) := by decide +kernel
theorem dX1_led_190 : decode cX1_led 190 = .ok (.iadd, 1) := by decide +kernel
theorem dX1_led_191 : decode cX1_led 191 = .ok (.aload_n 0, 1) := by decide +kernel
theorem dX1_led_192 : decode cX1_led 192 = .ok (.getfield 23, 3) := by decide +kernel
theorem dX1_led_195 : decode cX1_led 195 = .ok (.if_icmp .ge 13, 3) := by decide +kernel
theorem dX1_led_198 : decode cX1_led 198 = .ok (.aload_n 0, 1) := by decide +kernel
theorem dX1_led_199 : decode cX1_led 199 = .ok (.iload_n 1, 1) := by decide +kernel
theorem dX1_led_200 : decode cX1_led 200 = .ok (.iconst 1, 1) := by decide +kernel
theorem dX1_led_201 : decode cX1_led 201 = .ok (.iadd, 1) := by decide +kernel
theorem dX1_led_202 : decode cX1_led 202 = .ok (.invokevirtual 110, 3) := by decide +kernel
theorem dX1_led_205 : decode cX1_led 205 = .ok (.goto 4, 3) := by decide +kernel
theorem dX1_led_208 : decode cX1_led 208 = .ok (.iconst 0, 1) := by decide +kernel
theorem dX1_led_209 : decode cX1_led 209 = .ok (.iadd, 1) := by decide +kernel
theorem dX1_led_210 : decode cX1_led 210 = .ok (.istore 7, 2) := by decide +kernel
theorem dX1_led_212 : decode cX1_led 212 = .ok (.aload_n 3, 1) := by decide +kernel
theorem dX1_led_213 : decode cX1_led 213 = .ok (.iconst 0, 1) := by decide +kernel
theorem dX1_led_214 : decode cX1_led 214 = .ok (.iaload, 1) := by decide +kernel
theorem dX1_led_215 : decode cX1_led 215 = .ok (.iconst (-1), 1) := by decide +kernel
theorem dX1_led_216 : decode cX1_led 216 = .ok (.if_icmp .eq 14, 3) := by decide +kernel
theorem dX1_led_219 : decode cX1_led 219 = .ok (.iload 7, 2) := by decide +kernel
theorem dX1_led_221 : decode cX1_led 221 = .ok (.aload_n 3, 1) := by decide +kernel
theorem dX1_led_222 : decode cX1_led 222 = .ok (.iconst 1, 1) := by decide +kernel
theorem dX1_led_223 : decode cX1_led 223 = .ok (.iaload, 1) := by decide +kernel
theorem dX1_led_224 : decode cX1_led 224 = .ok (.if_icmp .lt 6, 3) := by decide +kernel
theorem dX1_led_227 : decode cX1_led 227 = .ok (.goto 26, 3) := by decide +kernel
theorem dX1_led_230 : decode cX1_led 230 = .ok (.aload_n 3, 1) := by decide +kernel
theorem dX1_led_231 : decode cX1_led 231 = .ok (.iconst 0, 1) := by decide +kernel
theorem dX1_led_232 : decode cX1_led 232 = .ok (.sipush 784, 3) := by decide +kernel
theorem dX1_led_235 : decode cX1_led 235 = .ok (.iload 4, 2) := by decide +kernel
theorem dX1_led_237 : decode cX1_led 237 = .ok (.imul, 1) := by decide +kernel
theorem dX1_led_238 : decode cX1_led 238 = .ok (.bipush 28, 2) := by decide +kernel
theorem dX1_led_240 : decode cX1_led 240 = .ok (.iload 5, 2) := by decide +kernel
theorem dX1_led_242 : decode cX1_led 242 = .ok (.imul, 1) := by decide +kernel
theorem dX1_led_243 : decode cX1_led 243 = .ok (.iadd, 1) := by decide +kernel
theorem dX1_led_244 : decode cX1_led 244 = .ok (.iload 6, 2) := by decide +kernel
theorem dX1_led_246 : decode cX1_led 246 = .ok (.iadd, 1) := by decide +kernel
theorem dX1_led_247 : decode cX1_led 247 = .ok (.iastore, 1) := by decide +kernel
theorem dX1_led_248 : decode cX1_led 248 = .ok (.aload_n 3, 1) := by decide +kernel
theorem dX1_led_249 : decode cX1_led 249 = .ok (.iconst 1, 1) := by decide +kernel
theorem dX1_led_250 : decode cX1_led 250 = .ok (.iload 7, 2) := by decide +kernel
theorem dX1_led_252 : decode cX1_led 252 = .ok (.iastore, 1) := by decide +kernel
theorem dX1_led_253 : decode cX1_led 253 = .ok (.iinc 6 1, 3) := by decide +kernel
theorem dX1_led_256 : decode cX1_led 256 = .ok (.goto (-112), 3) := by decide +kernel
theorem dX1_led_259 : decode cX1_led 259 = .ok (.iinc 5 1, 3) := by decide +kernel
theorem dX1_led_262 : decode cX1_led 262 = .ok (.goto (-163), 3) := by decide +kernel
theorem dX1_led_265 : decode cX1_led 265 = .ok (.iinc 4 1, 3) := by decide +kernel
theorem dX1_led_268 : decode cX1_led 268 = .ok (.goto (-214), 3) := by decide +kernel
theorem dX1_led_271 : decode cX1_led 271 = .ok (.aload_n 0, 1) := by decide +kernel
theorem dX1_led_272 : decode cX1_led 272 = .ok (.iload_n 1, 1) := by decide +kernel
theorem dX1_led_273 : decode cX1_led 273 = .ok (.aload_n 2, 1) := by decide +kernel
theorem dX1_led_274 : decode cX1_led 274 = .ok (.iconst 0, 1) := by decide +kernel
theorem dX1_led_275 : decode cX1_led 275 = .ok (.iaload, 1) := by decide +kernel
theorem dX1_led_276 : decode cX1_led 276 = .ok (.aload_n 2, 1) := by decide +kernel
theorem dX1_led_277 : decode cX1_led 277 = .ok (.iconst 1, 1) := by decide +kernel
theorem dX1_led_278 : decode cX1_led 278 = .ok (.iaload, 1) := by decide +kernel
theorem dX1_led_279 : decode cX1_led 279 = .ok (.aload_n 2, 1) := by decide +kernel
theorem dX1_led_280 : decode cX1_led 280 = .ok (.iconst 2, 1) := by decide +kernel
theorem dX1_led_281 : decode cX1_led 281 = .ok (.iaload, 1) := by decide +kernel
theorem dX1_led_282 : decode cX1_led 282 = .ok (.invokevirtual 106, 3) := by decide +kernel
theorem dX1_led_285 : decode cX1_led 285 = .ok (.aload_n 3, 1) := by decide +kernel
theorem dX1_led_286 : decode cX1_led 286 = .ok (.areturn, 1) := by decide +kernel
set_option maxRecDepth 20000 in
theorem ggX1_isLed_X1_led : GoodIn wsX1_isLed wsX1_led := goodIn_r _ [5, 6, 7, 8, 9, 10, 11, 12, 13, 14, 15, 16, 17, 4, 18, 19, 20, 21, 22, 23, 24, 25, 26, 27, 28, 29, 30, 31, 32, 33, 34, 35, 36, 37, 38, 39, 40, 41, 42, 43, 44, 45, 46, 47, 48, 49, 50, 51, 52, 53, 54, 55, 56, 57, 58, 59, 60, 61, 62, 63, 64, 65, 66, 67, 68, 69, 70, 71, 72, 73, 74, 75, 76, 77, 78, 79, 80, 81, 82, 83, 84, 85, 86, 87, 88, 89, 90, 91, 92, 93, 94, 95] (by decide +kernel) (by decide +kernel)
set_option maxRecDepth 20000 in
theorem gX1_isLed_X1_led : GoodIn wsX1_isLed (wsV RX1 113 RX1 yX1_led wsX1_led) := goodIn_app (goodIn_of _ (by decide +kernel)) ggX1_isLed_X1_led
set_option maxRecDepth 20000 in
theorem ggX1_isLed_X1_let : GoodIn wsX1_isLed wsX1_let := goodIn_r _ [30, 19, 90, 91, 92, 93, 94, 95] (by decide +kernel) (by decide +kernel)
set_option maxRecDepth 20000 in
theorem gX1_isLed_X1_let : GoodIn wsX1_isLed (wsV RX1 106 RX1 yX1_let wsX1_let) := goodIn_app (goodIn_of _ (by decide +kernel)) ggX1_isLed_X1_let
theorem dX1_isLed_0 : decode cX1_isLed 0 = .ok (.aload_n 0, 1) := by decide +kernel
theorem dX1_isLed_1 : decode cX1_isLed 1 = .ok (.iload_n 1, 1) := by decide +kernel
theorem dX1_isLed_2 : decode cX1_isLed 2 = .ok (.invokevirtual 113, 3) := by decide +kernel
theorem dX1_isLed_5 : decode cX1_isLed 5 = .ok (.iconst 0, 1) := by decide +kernel
theorem dX1_isLed_6 : decode cX1_isLed 6 = .ok (.iaload, 1) := by decide +kernel
theorem dX1_isLed_7 : decode cX1_isLed 7 = .ok (.istore_n 2, 1) := by decide +kernel
theorem dX1_isLed_8 : decode cX1_isLed 8 = .ok (.iload_n 2, 1) := by decide +kernel
theorem dX1_isLed_9 : decode cX1_isLed 9 = .ok (.iconst (-1), 1) := by decide +kernel
theorem dX1_isLed_10 : decode cX1_isLed 10 = .ok (.if_icmp .eq 24, 3) := by decide +kernel
theorem dX1_isLed_13 : decode cX1_isLed 13 = .ok (.aload_n 0, 1) := by decide +kernel
theorem dX1_isLed_14 : decode cX1_isLed 14 = .ok (.iload_n 1, 1) := by decide +kernel
theorem dX1_isLed_15 : decode cX1_isLed 15 = .ok (.iload_n 2, 1) := by decide +kernel
theorem dX1_isLed_16 : decode cX1_isLed 16 = .ok (.sipush 784, 3) := by decide +kernel
theorem dX1_isLed_19 : decode cX1_isLed 19 = .ok (.idiv, 1) := by decide +kernel
theorem dX1_isLed_20 : decode cX1_isLed 20 = .ok (.iload_n 2, 1) := by decide +kernel
theorem dX1_isLed_21 : decode cX1_isLed 21 = .ok (.bipush 28, 2) := by decide +kernel
theorem dX1_isLed_23 : decode cX1_isLed 23 = .ok (.idiv, 1) := by decide +kernel
theorem dX1_isLed_24 : decode cX1_isLed 24 = .ok (.bipush 28, 2) := by decide +kernel
theorem dX1_isLed_26 : decode cX1_isLed 26 = .ok (.irem, 1) := by decide +kernel
theorem dX1_isLed_27 : decode cX1_isLed 27 = .ok (.iload_n 2, 1) := by decide +kernel
theorem dX1_isLed_28 : decode cX1_isLed 28 = .ok (.bipush 28, 2) := by decide +kernel
theorem dX1_isLed_30 : decode cX1_isLed 30 = .ok (.irem, 1) := by decide +kernel
theorem dX1_isLed_31 : decode cX1_isLed 31 = .ok (.invokevirtual 106, 3) := by decide +kernel
theorem dX1_isLed_34 : decode cX1_isLed 34 = .ok (.iload_n 2, 1) := by decide +kernel
theorem dX1_isLed_35 : decode cX1_isLed 35 = .ok (.iconst (-1), 1) := by decide +kernel
theorem dX1_isLed_36 : decode cX1_isLed 36 = .ok (.if_icmp .eq 7, 3) := by decide +kernel
theorem dX1_isLed_39 : decode cX1_isLed 39 = .ok (.iconst 1, 1) := by decide +kernel
theorem dX1_isLed_40 : decode cX1_isLed 40 = .ok (.goto 4, 3) := by decide +kernel
theorem dX1_isLed_43 : decode cX1_isLed 43 = .ok (.iconst 0, 1) := by decide +kernel
theorem dX1_isLed_44 : decode cX1_isLed 44 = .ok (.ireturn, 1) := by decide +kernel
set_option maxRecDepth 20000 in
theorem ggX1_chord_X1_isOf : GoodIn wsX1_chord wsX1_isOf := goodIn_r _ [8, 9, 10, 11, 12, 7, 13] (by decide +kernel) (by decide +kernel)
set_option maxRecDepth 20000 in
theorem gX1_chord_X1_isOf : GoodIn wsX1_chord (va_wsS RX1 117 yX1_isOf wsX1_isOf) := goodIn_app (goodIn_of _ (by decide +kernel)) ggX1_chord_X1_isOf
set_option maxRecDepth 20000 in
theorem ggX1_chord_X1_isIn : GoodIn wsX1_chord wsX1_isIn := goodIn_r _ [13] (by decide +kernel) (by decide +kernel)
set_option maxRecDepth 20000 in
theorem gX1_chord_X1_isIn : GoodIn wsX1_chord (va_wsS RX1 26 yX1_isIn wsX1_isIn) := goodIn_app (goodIn_of _ (by decide +kernel)) ggX1_chord_X1_isIn
set_option maxRecDepth 20000 in
theorem ggX1_chord_X1_no : GoodIn wsX1_chord wsX1_no := goodIn_r _ [17, 1, 22, 23, 24, 25, 26, 27] (by decide +kernel) (by decide +kernel)
set_option maxRecDepth 20000 in
theorem gX1_chord_X1_no : GoodIn wsX1_chord (wsV RX1 121 RX1 yX1_no wsX1_no) := goodIn_app (goodIn_of _ (by decide +kernel)) ggX1_chord_X1_no
set_option maxRecDepth 20000 in
theorem ggX1_chord_X1_let : GoodIn wsX1_chord wsX1_let := goodIn_r _ [21, 3, 22, 23, 24, 25, 26, 27] (by decide +kernel) (by decide +kernel)
set_option maxRecDepth 20000 in
theorem gX1_chord_X1_let : GoodIn wsX1_chord (wsV RX1 106 RX1 yX1_let wsX1_let) := goodIn_app (goodIn_of _ (by decide +kernel)) ggX1_chord_X1_let
theorem dX1_chord_0 : decode cX1_chord 0 = .ok (.aload_n 0, 1) := by decide +kernel
theorem dX1_chord_1 : decode cX1_chord 1 = .ok (.iconst 0, 1) := by decide +kernel
theorem dX1_chord_2 : decode cX1_chord 2 = .ok (.putfield 19, 3) := by decide +kernel
theorem dX1_chord_5 : decode cX1_chord 5 = .ok (.iconst 0, 1) := by decide +kernel
theorem dX1_chord_6 : decode cX1_chord 6 = .ok (.iload_n 1, 1) := by decide +kernel
theorem dX1_chord_7 : decode cX1_chord 7 = .ok (.invokestatic 117, 3) := by decide +kernel
theorem dX1_chord_10 : decode cX1_chord 10 = .ok (.ifCond .eq 12, 3) := by decide +kernel
theorem dX1_chord_13 : decode cX1_chord 13 = .ok (.iload_n 2, 1) := by decide +kernel
theorem dX1_chord_14 : decode cX1_chord 14 = .ok (.iconst 0, 1) := by decide +kernel
theorem dX1_chord_15 : decode cX1_chord 15 = .ok (.iconst 5, 1) := by decide +kernel
theorem dX1_chord_16 : decode cX1_chord 16 = .ok (.invokestatic 26, 3) := by decide +kernel
theorem dX1_chord_19 : decode cX1_chord 19 = .ok (.ifCond .ne 9, 3) := by decide +kernel
theorem dX1_chord_22 : decode cX1_chord 22 = .ok (.aload_n 0, 1) := by decide +kernel
theorem dX1_chord_23 : decode cX1_chord 23 = .ok (.iconst 1, 1) := by decide +kernel
theorem dX1_chord_24 : decode cX1_chord 24 = .ok (.invokevirtual 121, 3) := by decide +kernel
theorem dX1_chord_27 : decode cX1_chord 27 = .ok (.ireturn, 1) := by decide +kernel
theorem dX1_chord_28 : decode cX1_chord 28 = .ok (.aload_n 0, 1) := by decide +kernel
theorem dX1_chord_29 : decode cX1_chord 29 = .ok (.getfield 23, 3) := by decide +kernel
theorem dX1_chord_32 : decode cX1_chord 32 = .ok (.bipush 12, 2) := by decide +kernel
theorem dX1_chord_34 : decode cX1_chord 34 = .ok (.if_icmp .ne 9, 3) := by decide +kernel
theorem dX1_chord_37 : decode cX1_chord 37 = .ok (.aload_n 0, 1) := by decide +kernel
theorem dX1_chord_38 : decode cX1_chord 38 = .ok (.iconst 2, 1) := by decide +kernel
theorem dX1_chord_39 : decode cX1_chord 39 = .ok (.invokevirtual 121, 3) := by decide +kernel
theorem dX1_chord_42 : decode cX1_chord 42 = .ok (.ireturn, 1) := by decide +kernel
theorem dX1_chord_43 : decode cX1_chord 43 = .ok (.aload_n 0, 1) := by decide +kernel
theorem dX1_chord_44 : decode cX1_chord 44 = .ok (.getfield 9, 3) := by decide +kernel
theorem dX1_chord_47 : decode cX1_chord 47 = .ok (.iconst 4, 1) := by decide +kernel
theorem dX1_chord_48 : decode cX1_chord 48 = .ok (.aload_n 0, 1) := by decide +kernel
theorem dX1_chord_49 : decode cX1_chord 49 = .ok (.getfield 23, 3) := by decide +kernel
theorem dX1_chord_52 : decode cX1_chord 52 = .ok (.imul, 1) := by decide +kernel
theorem dX1_chord_53 : decode cX1_chord 53 = .ok (.iload_n 1, 1) := by decide +kernel
theorem dX1_chord_54 : decode cX1_chord 54 = .ok (.iastore, 1) := by decide +kernel
theorem dX1_chord_55 : decode cX1_chord 55 = .ok (.aload_n 0, 1) := by decide +kernel
theorem dX1_chord_56 : decode cX1_chord 56 = .ok (.aload_n 0, 1) := by decide +kernel
theorem dX1_chord_57 : decode cX1_chord 57 = .ok (.getfield 23, 3) := by decide +kernel
theorem dX1_chord_60 : decode cX1_chord 60 = .ok (.iconst (-1), 1) := by decide +kernel
theorem dX1_chord_61 : decode cX1_chord 61 = .ok (.iconst (-1), 1) := by decide +kernel
theorem dX1_chord_62 : decode cX1_chord 62 = .ok (.iconst (-1), 1) := by decide +kernel
theorem dX1_chord_63 : decode cX1_chord 63 = .ok (.invokevirtual 106, 3) := by decide +kernel
theorem dX1_chord_66 : decode cX1_chord 66 = .ok (.aload_n 0, 1) := by decide +kernel
theorem dX1_chord_67 : decode cX1_chord 67 = .ok (.getfield 13, 3) := by decide +kernel
theorem dX1_chord_70 : decode cX1_chord 70 = .ok (.aload_n 0, 1) := by decide +kernel
theorem dX1_chord_71 : decode cX1_chord 71 = .ok (.getfield 23, 3) := by decide +kernel
theorem dX1_chord_74 : decode cX1_chord 74 = .ok (.iload_n 2, 1) := by decide +kernel
theorem dX1_chord_75 : decode cX1_chord 75 = .ok (.iastore, 1) := by decide +kernel
theorem dX1_chord_76 : decode cX1_chord 76 = .ok (.aload_n 0, 1) := by decide +kernel
theorem dX1_chord_77 : decode cX1_chord 77 = .ok (.dup, 1) := by decide +kernel
theorem dX1_chord_78 : decode cX1_chord 78 = .ok (.getfield 23, 3) := by decide +kernel
theorem dX1_chord_81 : decode cX1_chord 81 = .ok (.iconst 1, 1) := by decide +kernel
theorem dX1_chord_82 : decode cX1_chord 82 = .ok (.iadd, 1) := by decide +kernel
theorem dX1_chord_83 : decode cX1_chord 83 = .ok (.putfield 23, 3) := by decide +kernel
theorem dX1_chord_86 : decode cX1_chord 86 = .ok (.aload_n 0, 1) := by decide +kernel
theorem dX1_chord_87 : decode cX1_chord 87 = .ok (.getfield 23, 3) := by decide +kernel
theorem dX1_chord_90 : decode cX1_chord 90 = .ok (.iconst 1, 1) := by decide +kernel
theorem dX1_chord_91 : decode cX1_chord 91 = .ok (.isub, 1) := by decide +kernel
theorem dX1_chord_92 : decode cX1_chord 92 = .ok (.ireturn, 1) := by decide +kernel
set_option maxRecDepth 20000 in
theorem ggX1_setBass_X1_isChord : GoodIn wsX1_setBass wsX1_isChord := goodIn_r _ [7, 8, 9, 10, 6, 11, 25, 26, 27, 28, 29, 30] (by decide +kernel) (by decide +kernel)
set_option maxRecDepth 20000 in
theorem gX1_setBass_X1_isChord : GoodIn wsX1_setBass (wsV RX1 124 RX1 yX1_isChord wsX1_isChord) := goodIn_app (goodIn_of _ (by decide +kernel)) ggX1_setBass_X1_isChord
set_option maxRecDepth 20000 in
theorem ggX1_setBass_X1_no : GoodIn wsX1_setBass wsX1_no := goodIn_r _ [15, 1, 25, 26, 27, 28, 29, 30] (by decide +kernel) (by decide +kernel)
set_option maxRecDepth 20000 in
theorem gX1_setBass_X1_no : GoodIn wsX1_setBass (wsV RX1 121 RX1 yX1_no wsX1_no) := goodIn_app (goodIn_of _ (by decide +kernel)) ggX1_setBass_X1_no
set_option maxRecDepth 20000 in
theorem ggX1_setBass_X1_isOf : GoodIn wsX1_setBass wsX1_isOf := goodIn_r _ [18, 19, 20, 9, 10, 6, 11] (by decide +kernel) (by decide +kernel)
set_option maxRecDepth 20000 in
theorem gX1_setBass_X1_isOf : GoodIn wsX1_setBass (va_wsS RX1 117 yX1_isOf wsX1_isOf) := goodIn_app (goodIn_of _ (by decide +kernel)) ggX1_setBass_X1_isOf
set_option maxRecDepth 20000 in
theorem ggX1_setBass_X1_at : GoodIn wsX1_setBass wsX1_at := goodIn_r _ [24, 2, 25, 26, 27, 28, 29, 30] (by decide +kernel) (by decide +kernel)
set_option maxRecDepth 20000 in
theorem gX1_setBass_X1_at : GoodIn wsX1_setBass (wsV RX1 46 RX1 yX1_at wsX1_at) := goodIn_app (goodIn_of _ (by decide +kernel)) ggX1_setBass_X1_at
theorem dX1_setBass_0 : decode cX1_setBass 0 = .ok (.aload_n 0, 1) := by decide +kernel
theorem dX1_setBass_1 : decode cX1_setBass 1 = .ok (.iconst 0, 1) := by decide +kernel
theorem dX1_setBass_2 : decode cX1_setBass 2 = .ok (.putfield 19, 3) := by decide +kernel
theorem dX1_setBass_5 : decode cX1_setBass 5 = .ok (.aload_n 0, 1) := by decide +kernel
theorem dX1_setBass_6 : decode cX1_setBass 6 = .ok (.iload_n 1, 1) := by decide +kernel
theorem dX1_setBass_7 : decode cX1_setBass 7 = .ok (.invokevirtual 124, 3) := by decide +kernel
theorem dX1_setBass_10 : decode cX1_setBass 10 = .ok (.ifCond .ne 9, 3) := by decide +kernel
theorem dX1_setBass_13 : decode cX1_setBass 13 = .ok (.aload_n 0, 1) := by decide +kernel
theorem dX1_setBass_14 : decode cX1_setBass 14 = .ok (.iconst 1, 1) := by decide +kernel
theorem dX1_setBass_15 : decode cX1_setBass 15 = .ok (.invokevirtual 121, 3) := by decide +kernel
theorem dX1_setBass_18 : decode cX1_setBass 18 = .ok (.ireturn, 1) := by decide +kernel
theorem dX1_setBass_19 : decode cX1_setBass 19 = .ok (.iconst 0, 1) := by decide +kernel
theorem dX1_setBass_20 : decode cX1_setBass 20 = .ok (.iload_n 2, 1) := by decide +kernel
theorem dX1_setBass_21 : decode cX1_setBass 21 = .ok (.invokestatic 117, 3) := by decide +kernel
theorem dX1_setBass_24 : decode cX1_setBass 24 = .ok (.ifCond .ne 9, 3) := by decide +kernel
theorem dX1_setBass_27 : decode cX1_setBass 27 = .ok (.aload_n 0, 1) := by decide +kernel
theorem dX1_setBass_28 : decode cX1_setBass 28 = .ok (.iconst 2, 1) := by decide +kernel
theorem dX1_setBass_29 : decode cX1_setBass 29 = .ok (.invokevirtual 121, 3) := by decide +kernel
theorem dX1_setBass_32 : decode cX1_setBass 32 = .ok (.ireturn, 1) := by decide +kernel
theorem dX1_setBass_33 : decode cX1_setBass 33 = .ok (.aload_n 0, 1) := by decide +kernel
theorem dX1_setBass_34 : decode cX1_setBass 34 = .ok (.iload_n 1, 1) := by decide +kernel
theorem dX1_setBass_35 : decode cX1_setBass 35 = .ok (.iconst 0, 1) := by decide +kernel
theorem dX1_setBass_36 : decode cX1_setBass 36 = .ok (.invokevirtual 46, 3) := by decide +kernel
theorem dX1_setBass_39 : decode cX1_setBass 39 = .ok (.istore_n 3, 1) := by decide +kernel
theorem dX1_setBass_40 : decode cX1_setBass 40 = .ok (.aload_n 0, 1) := by decide +kernel
theorem dX1_setBass_41 : decode cX1_setBass 41 = .ok (.getfield 9, 3) := by decide +kernel
theorem dX1_setBass_44 : decode cX1_setBass 44 = .ok (.iconst 4, 1) := by decide +kernel
theorem dX1_setBass_45 : decode cX1_setBass 45 = .ok (.iload_n 1, 1) := by decide +kernel
theorem dX1_setBass_46 : decode cX1_setBass 46 = .ok (.imul, 1) := by decide +kernel
theorem dX1_setBass_47 : decode cX1_setBass 47 = .ok (.iload_n 2, 1) := by decide +kernel
theorem dX1_setBass_48 : decode cX1_setBass 48 = .ok (.iastore, 1) := by decide +kernel
theorem dX1_setBass_49 : decode cX1_setBass 49 = .ok (.iload_n 3, 1) := by decide +kernel
theorem dX1_setBass_50 : decode cX1_setBass 50 = .ok (.ireturn, 1) := by decide +kernel
set_option maxRecDepth 20000 in
theorem ggX1_setFigure_X1_isChord : GoodIn wsX1_setFigure wsX1_isChord := goodIn_r _ [7, 8, 9, 10, 6, 11, 16, 17, 18, 19, 20, 21] (by decide +kernel) (by decide +kernel)
set_option maxRecDepth 20000 in
theorem gX1_setFigure_X1_isChord : GoodIn wsX1_setFigure (wsV RX1 124 RX1 yX1_isChord wsX1_isChord) := goodIn_app (goodIn_of _ (by decide +kernel)) ggX1_setFigure_X1_isChord
set_option maxRecDepth 20000 in
theorem ggX1_setFigure_X1_no : GoodIn wsX1_setFigure wsX1_no := goodIn_r _ [15, 1, 16, 17, 18, 19, 20, 21] (by decide +kernel) (by decide +kernel)
set_option maxRecDepth 20000 in
theorem gX1_setFigure_X1_no : GoodIn wsX1_setFigure (wsV RX1 121 RX1 yX1_no wsX1_no) := goodIn_app (goodIn_of _ (by decide +kernel)) ggX1_setFigure_X1_no
set_option maxRecDepth 20000 in
theorem ggX1_setFigure_X1_isIn : GoodIn wsX1_setFigure wsX1_isIn := goodIn_r _ [11] (by decide +kernel) (by decide +kernel)
set_option maxRecDepth 20000 in
theorem gX1_setFigure_X1_isIn : GoodIn wsX1_setFigure (va_wsS RX1 26 yX1_isIn wsX1_isIn) := goodIn_app (goodIn_of _ (by decide +kernel)) ggX1_setFigure_X1_isIn
theorem dX1_setFigure_0 : decode cX1_setFigure 0 = .ok (.aload_n 0, 1) := by decide +kernel
theorem dX1_setFigure_1 : decode cX1_setFigure 1 = .ok (.iconst 0, 1) := by decide +kernel
theorem dX1_setFigure_2 : decode cX1_setFigure 2 = .ok (.putfield 19, 3) := by decide +kernel
theorem dX1_setFigure_5 : decode cX1_setFigure 5 = .ok (.aload_n 0, 1) := by decide +kernel
theorem dX1_setFigure_6 : decode cX1_setFigure 6 = .ok (.iload_n 1, 1) := by decide +kernel
theorem dX1_setFigure_7 : decode cX1_setFigure 7 = .ok (.invokevirtual 124, 3) := by decide +kernel
theorem dX1_setFigure_10 : decode cX1_setFigure 10 = .ok (.ifCond .ne 9, 3) := by decide +kernel
theorem dX1_setFigure_13 : decode cX1_setFigure 13 = .ok (.aload_n 0, 1) := by decide +kernel
theorem dX1_setFigure_14 : decode cX1_setFigure 14 = .ok (.iconst 1, 1) := by decide +kernel
theorem dX1_setFigure_15 : decode cX1_setFigure 15 = .ok (.invokevirtual 121, 3) := by decide +kernel
theorem dX1_setFigure_18 : decode cX1_setFigure 18 = .ok (.ireturn, 1) := by decide +kernel
theorem dX1_setFigure_19 : decode cX1_setFigure 19 = .ok (.iload_n 2, 1) := by decide +kernel
theorem dX1_setFigure_20 : decode cX1_setFigure 20 = .ok (.iconst 0, 1) := by decide +kernel
theorem dX1_setFigure_21 : decode cX1_setFigure 21 = .ok (.iconst 5, 1) := by decide +kernel
theorem dX1_setFigure_22 : decode cX1_setFigure 22 = .ok (.invokestatic 26, 3) := by decide +kernel
theorem dX1_setFigure_25 : decode cX1_setFigure 25 = .ok (.ifCond .ne 9, 3) := by decide +kernel
theorem dX1_setFigure_28 : decode cX1_setFigure 28 = .ok (.aload_n 0, 1) := by decide +kernel
theorem dX1_setFigure_29 : decode cX1_setFigure 29 = .ok (.iconst 2, 1) := by decide +kernel
theorem dX1_setFigure_30 : decode cX1_setFigure 30 = .ok (.invokevirtual 121, 3) := by decide +kernel
theorem dX1_setFigure_33 : decode cX1_setFigure 33 = .ok (.ireturn, 1) := by decide +kernel
theorem dX1_setFigure_34 : decode cX1_setFigure 34 = .ok (.aload_n 0, 1) := by decide +kernel
theorem dX1_setFigure_35 : decode cX1_setFigure 35 = .ok (.getfield 13, 3) := by decide +kernel
theorem dX1_setFigure_38 : decode cX1_setFigure 38 = .ok (.iload_n 1, 1) := by decide +kernel
theorem dX1_setFigure_39 : decode cX1_setFigure 39 = .ok (.iaload, 1) := by decide +kernel
theorem dX1_setFigure_40 : decode cX1_setFigure 40 = .ok (.istore_n 3, 1) := by decide +kernel
theorem dX1_setFigure_41 : decode cX1_setFigure 41 = .ok (.aload_n 0, 1) := by decide +kernel
theorem dX1_setFigure_42 : decode cX1_setFigure 42 = .ok (.getfield 13, 3) := by decide +kernel
theorem dX1_setFigure_45 : decode cX1_setFigure 45 = .ok (.iload_n 1, 1) := by decide +kernel
theorem dX1_setFigure_46 : decode cX1_setFigure 46 = .ok (.iload_n 2, 1) := by decide +kernel
theorem dX1_setFigure_47 : decode cX1_setFigure 47 = .ok (.iastore, 1) := by decide +kernel
theorem dX1_setFigure_48 : decode cX1_setFigure 48 = .ok (.iload_n 3, 1) := by decide +kernel
theorem dX1_setFigure_49 : decode cX1_setFigure 49 = .ok (.ireturn, 1) := by decide +kernel
set_option maxRecDepth 20000 in
theorem ggX1_put_X1_isChord : GoodIn wsX1_put wsX1_isChord := goodIn_r _ [7, 8, 9, 10, 6, 11, 25, 26, 27, 28, 29, 30] (by decide +kernel) (by decide +kernel)
set_option maxRecDepth 20000 in
theorem gX1_put_X1_isChord : GoodIn wsX1_put (wsV RX1 124 RX1 yX1_isChord wsX1_isChord) := goodIn_app (goodIn_of _ (by decide +kernel)) ggX1_put_X1_isChord
set_option maxRecDepth 20000 in
theorem ggX1_put_X1_isIn : GoodIn wsX1_put wsX1_isIn := goodIn_r _ [11] (by decide +kernel) (by decide +kernel)
set_option maxRecDepth 20000 in
theorem gX1_put_X1_isIn : GoodIn wsX1_put (va_wsS RX1 26 yX1_isIn wsX1_isIn) := goodIn_app (goodIn_of _ (by decide +kernel)) ggX1_put_X1_isIn
set_option maxRecDepth 20000 in
theorem ggX1_put_X1_no : GoodIn wsX1_put wsX1_no := goodIn_r _ [15, 1, 25, 26, 27, 28, 29, 30] (by decide +kernel) (by decide +kernel)
set_option maxRecDepth 20000 in
theorem gX1_put_X1_no : GoodIn wsX1_put (wsV RX1 121 RX1 yX1_no wsX1_no) := goodIn_app (goodIn_of _ (by decide +kernel)) ggX1_put_X1_no
set_option maxRecDepth 20000 in
theorem ggX1_put_X1_isOf : GoodIn wsX1_put wsX1_isOf := goodIn_r _ [18, 19, 20, 9, 10, 6, 11] (by decide +kernel) (by decide +kernel)
set_option maxRecDepth 20000 in
theorem gX1_put_X1_isOf : GoodIn wsX1_put (va_wsS RX1 117 yX1_isOf wsX1_isOf) := goodIn_app (goodIn_of _ (by decide +kernel)) ggX1_put_X1_isOf
set_option maxRecDepth 20000 in
theorem ggX1_put_X1_at : GoodIn wsX1_put wsX1_at := goodIn_r _ [24, 2, 25, 26, 27, 28, 29, 30] (by decide +kernel) (by decide +kernel)
set_option maxRecDepth 20000 in
theorem gX1_put_X1_at : GoodIn wsX1_put (wsV RX1 46 RX1 yX1_at wsX1_at) := goodIn_app (goodIn_of _ (by decide +kernel)) ggX1_put_X1_at
theorem dX1_put_0 : decode cX1_put 0 = .ok (.aload_n 0, 1) := by decide +kernel
theorem dX1_put_1 : decode cX1_put 1 = .ok (.iconst 0, 1) := by decide +kernel
theorem dX1_put_2 : decode cX1_put 2 = .ok (.putfield 19, 3) := by decide +kernel
theorem dX1_put_5 : decode cX1_put 5 = .ok (.aload_n 0, 1) := by decide +kernel
theorem dX1_put_6 : decode cX1_put 6 = .ok (.iload_n 1, 1) := by decide +kernel
theorem dX1_put_7 : decode cX1_put 7 = .ok (.invokevirtual 124, 3) := by decide +kernel
theorem dX1_put_10 : decode cX1_put 10 = .ok (.ifCond .eq 12, 3) := by decide +kernel
theorem dX1_put_13 : decode cX1_put 13 = .ok (.iload_n 2, 1) := by decide +kernel
theorem dX1_put_14 : decode cX1_put 14 = .ok (.iconst 1, 1) := by decide +kernel
theorem dX1_put_15 : decode cX1_put 15 = .ok (.iconst 3, 1) := by decide +kernel
theorem dX1_put_16 : decode cX1_put 16 = .ok (.invokestatic 26, 3) := by decide +kernel
theorem dX1_put_19 : decode cX1_put 19 = .ok (.ifCond .ne 9, 3) := by decide +kernel
theorem dX1_put_22 : decode cX1_put 22 = .ok (.aload_n 0, 1) := by decide +kernel
theorem dX1_put_23 : decode cX1_put 23 = .ok (.iconst 1, 1) := by decide +kernel
theorem dX1_put_24 : decode cX1_put 24 = .ok (.invokevirtual 121, 3) := by decide +kernel
theorem dX1_put_27 : decode cX1_put 27 = .ok (.ireturn, 1) := by decide +kernel
theorem dX1_put_28 : decode cX1_put 28 = .ok (.iload_n 3, 1) := by decide +kernel
theorem dX1_put_29 : decode cX1_put 29 = .ok (.iconst (-1), 1) := by decide +kernel
theorem dX1_put_30 : decode cX1_put 30 = .ok (.if_icmp .eq 17, 3) := by decide +kernel
theorem dX1_put_33 : decode cX1_put 33 = .ok (.iload_n 2, 1) := by decide +kernel
theorem dX1_put_34 : decode cX1_put 34 = .ok (.iload_n 3, 1) := by decide +kernel
theorem dX1_put_35 : decode cX1_put 35 = .ok (.invokestatic 117, 3) := by decide +kernel
theorem dX1_put_38 : decode cX1_put 38 = .ok (.ifCond .ne 9, 3) := by decide +kernel
theorem dX1_put_41 : decode cX1_put 41 = .ok (.aload_n 0, 1) := by decide +kernel
theorem dX1_put_42 : decode cX1_put 42 = .ok (.iconst 2, 1) := by decide +kernel
theorem dX1_put_43 : decode cX1_put 43 = .ok (.invokevirtual 121, 3) := by decide +kernel
theorem dX1_put_46 : decode cX1_put 46 = .ok (.ireturn, 1) := by decide +kernel
theorem dX1_put_47 : decode cX1_put 47 = .ok (.aload_n 0, 1) := by decide +kernel
theorem dX1_put_48 : decode cX1_put 48 = .ok (.iload_n 1, 1) := by decide +kernel
theorem dX1_put_49 : decode cX1_put 49 = .ok (.iload_n 2, 1) := by decide +kernel
theorem dX1_put_50 : decode cX1_put 50 = .ok (.invokevirtual 46, 3) := by decide +kernel
theorem dX1_put_53 : decode cX1_put 53 = .ok (.istore 4, 2) := by decide +kernel
theorem dX1_put_55 : decode cX1_put 55 = .ok (.aload_n 0, 1) := by decide +kernel
theorem dX1_put_56 : decode cX1_put 56 = .ok (.getfield 9, 3) := by decide +kernel
theorem dX1_put_59 : decode cX1_put 59 = .ok (.iconst 4, 1) := by decide +kernel
theorem dX1_put_60 : decode cX1_put 60 = .ok (.iload_n 1, 1) := by decide +kernel
theorem dX1_put_61 : decode cX1_put 61 = .ok (.imul, 1) := by decide +kernel
theorem dX1_put_62 : decode cX1_put 62 = .ok (.iload_n 2, 1) := by decide +kernel
theorem dX1_put_63 : decode cX1_put 63 = .ok (.iadd, 1) := by decide +kernel
theorem dX1_put_64 : decode cX1_put 64 = .ok (.iload_n 3, 1) := by decide +kernel
theorem dX1_put_65 : decode cX1_put 65 = .ok (.iastore, 1) := by decide +kernel
theorem dX1_put_66 : decode cX1_put 66 = .ok (.iload 4, 2) := by decide +kernel
theorem dX1_put_68 : decode cX1_put 68 = .ok (.ireturn, 1) := by decide +kernel
set_option maxRecDepth 20000 in
theorem ggX1_drop_X1_no : GoodIn wsX1_drop wsX1_no := goodIn_r _ [7, 1, 8, 9, 10, 11, 12, 13] (by decide +kernel) (by decide +kernel)
set_option maxRecDepth 20000 in
theorem gX1_drop_X1_no : GoodIn wsX1_drop (wsV RX1 121 RX1 yX1_no wsX1_no) := goodIn_app (goodIn_of _ (by decide +kernel)) ggX1_drop_X1_no
theorem dX1_drop_0 : decode cX1_drop 0 = .ok (.aload_n 0, 1) := by decide +kernel
theorem dX1_drop_1 : decode cX1_drop 1 = .ok (.iconst 0, 1) := by decide +kernel
theorem dX1_drop_2 : decode cX1_drop 2 = .ok (.putfield 19, 3) := by decide +kernel
theorem dX1_drop_5 : decode cX1_drop 5 = .ok (.aload_n 0, 1) := by decide +kernel
theorem dX1_drop_6 : decode cX1_drop 6 = .ok (.getfield 23, 3) := by decide +kernel
theorem dX1_drop_9 : decode cX1_drop 9 = .ok (.ifCond .ne 9, 3) := by decide +kernel
theorem dX1_drop_12 : decode cX1_drop 12 = .ok (.aload_n 0, 1) := by decide +kernel
theorem dX1_drop_13 : decode cX1_drop 13 = .ok (.iconst 1, 1) := by decide +kernel
theorem dX1_drop_14 : decode cX1_drop 14 = .ok (.invokevirtual 121, 3) := by decide +kernel
theorem dX1_drop_17 : decode cX1_drop 17 = .ok (.ireturn, 1) := by decide +kernel
theorem dX1_drop_18 : decode cX1_drop 18 = .ok (.aload_n 0, 1) := by decide +kernel
theorem dX1_drop_19 : decode cX1_drop 19 = .ok (.dup, 1) := by decide +kernel
theorem dX1_drop_20 : decode cX1_drop 20 = .ok (.getfield 23, 3) := by decide +kernel
theorem dX1_drop_23 : decode cX1_drop 23 = .ok (.iconst 1, 1) := by decide +kernel
theorem dX1_drop_24 : decode cX1_drop 24 = .ok (.isub, 1) := by decide +kernel
theorem dX1_drop_25 : decode cX1_drop 25 = .ok (.putfield 23, 3) := by decide +kernel
theorem dX1_drop_28 : decode cX1_drop 28 = .ok (.aload_n 0, 1) := by decide +kernel
theorem dX1_drop_29 : decode cX1_drop 29 = .ok (.getfield 23, 3) := by decide +kernel
theorem dX1_drop_32 : decode cX1_drop 32 = .ok (.ireturn, 1) := by decide +kernel
theorem dX1_setKey_0 : decode cX1_setKey 0 = .ok (.aload_n 0, 1) := by decide +kernel
theorem dX1_setKey_1 : decode cX1_setKey 1 = .ok (.iconst 0, 1) := by decide +kernel
theorem dX1_setKey_2 : decode cX1_setKey 2 = .ok (.putfield 19, 3) := by decide +kernel
theorem dX1_setKey_5 : decode cX1_setKey 5 = .ok (.aload_n 0, 1) := by decide +kernel
theorem dX1_setKey_6 : decode cX1_setKey 6 = .ok (.getfield 36, 3) := by decide +kernel
theorem dX1_setKey_9 : decode cX1_setKey 9 = .ok (.istore_n 2, 1) := by decide +kernel
theorem dX1_setKey_10 : decode cX1_setKey 10 = .ok (.aload_n 0, 1) := by decide +kernel
theorem dX1_setKey_11 : decode cX1_setKey 11 = .ok (.iload_n 1, 1) := by decide +kernel
theorem dX1_setKey_12 : decode cX1_setKey 12 = .ok (.putfield 36, 3) := by decide +kernel
theorem dX1_setKey_15 : decode cX1_setKey 15 = .ok (.iload_n 2, 1) := by decide +kernel
theorem dX1_setKey_16 : decode cX1_setKey 16 = .ok (.ireturn, 1) := by decide +kernel
set_option maxRecDepth 20000 in
theorem ggX1_setWeight_X1_isIn : GoodIn wsX1_setWeight wsX1_isIn := goodIn_r _ [6] (by decide +kernel) (by decide +kernel)
set_option maxRecDepth 20000 in
theorem gX1_setWeight_X1_isIn : GoodIn wsX1_setWeight (va_wsS RX1 26 yX1_isIn wsX1_isIn) := goodIn_app (goodIn_of _ (by decide +kernel)) ggX1_setWeight_X1_isIn
set_option maxRecDepth 20000 in
theorem ggX1_setWeight_X1_no : GoodIn wsX1_setWeight wsX1_no := goodIn_r _ [10, 1, 11, 12, 13, 14, 15, 16] (by decide +kernel) (by decide +kernel)
set_option maxRecDepth 20000 in
theorem gX1_setWeight_X1_no : GoodIn wsX1_setWeight (wsV RX1 121 RX1 yX1_no wsX1_no) := goodIn_app (goodIn_of _ (by decide +kernel)) ggX1_setWeight_X1_no
theorem dX1_setWeight_0 : decode cX1_setWeight 0 = .ok (.aload_n 0, 1) := by decide +kernel
theorem dX1_setWeight_1 : decode cX1_setWeight 1 = .ok (.iconst 0, 1) := by decide +kernel
theorem dX1_setWeight_2 : decode cX1_setWeight 2 = .ok (.putfield 19, 3) := by decide +kernel
theorem dX1_setWeight_5 : decode cX1_setWeight 5 = .ok (.iload_n 1, 1) := by decide +kernel
theorem dX1_setWeight_6 : decode cX1_setWeight 6 = .ok (.iconst 0, 1) := by decide +kernel
theorem dX1_setWeight_7 : decode cX1_setWeight 7 = .ok (.bipush 7, 2) := by decide +kernel
theorem dX1_setWeight_9 : decode cX1_setWeight 9 = .ok (.invokestatic 26, 3) := by decide +kernel
theorem dX1_setWeight_12 : decode cX1_setWeight 12 = .ok (.ifCond .ne 9, 3) := by decide +kernel
theorem dX1_setWeight_15 : decode cX1_setWeight 15 = .ok (.aload_n 0, 1) := by decide +kernel
theorem dX1_setWeight_16 : decode cX1_setWeight 16 = .ok (.iconst 1, 1) := by decide +kernel
theorem dX1_setWeight_17 : decode cX1_setWeight 17 = .ok (.invokevirtual 121, 3) := by decide +kernel
theorem dX1_setWeight_20 : decode cX1_setWeight 20 = .ok (.ireturn, 1) := by decide +kernel
theorem dX1_setWeight_21 : decode cX1_setWeight 21 = .ok (.iload_n 2, 1) := by decide +kernel
theorem dX1_setWeight_22 : decode cX1_setWeight 22 = .ok (.iconst 0, 1) := by decide +kernel
theorem dX1_setWeight_23 : decode cX1_setWeight 23 = .ok (.bipush 9, 2) := by decide +kernel
theorem dX1_setWeight_25 : decode cX1_setWeight 25 = .ok (.invokestatic 26, 3) := by decide +kernel
theorem dX1_setWeight_28 : decode cX1_setWeight 28 = .ok (.ifCond .ne 9, 3) := by decide +kernel
theorem dX1_setWeight_31 : decode cX1_setWeight 31 = .ok (.aload_n 0, 1) := by decide +kernel
theorem dX1_setWeight_32 : decode cX1_setWeight 32 = .ok (.iconst 2, 1) := by decide +kernel
theorem dX1_setWeight_33 : decode cX1_setWeight 33 = .ok (.invokevirtual 121, 3) := by decide +kernel
theorem dX1_setWeight_36 : decode cX1_setWeight 36 = .ok (.ireturn, 1) := by decide +kernel
theorem dX1_setWeight_37 : decode cX1_setWeight 37 = .ok (.aload_n 0, 1) := by decide +kernel
theorem dX1_setWeight_38 : decode cX1_setWeight 38 = .ok (.getfield 16, 3) := by decide +kernel
theorem dX1_setWeight_41 : decode cX1_setWeight 41 = .ok (.iload_n 1, 1) := by decide +kernel
theorem dX1_setWeight_42 : decode cX1_setWeight 42 = .ok (.iaload, 1) := by decide +kernel
theorem dX1_setWeight_43 : decode cX1_setWeight 43 = .ok (.istore_n 3, 1) := by decide +kernel
theorem dX1_setWeight_44 : decode cX1_setWeight 44 = .ok (.aload_n 0, 1) := by decide +kernel
theorem dX1_setWeight_45 : decode cX1_setWeight 45 = .ok (.getfield 16, 3) := by decide +kernel
theorem dX1_setWeight_48 : decode cX1_setWeight 48 = .ok (.iload_n 1, 1) := by decide +kernel
theorem dX1_setWeight_49 : decode cX1_setWeight 49 = .ok (.iload_n 2, 1) := by decide +kernel
theorem dX1_setWeight_50 : decode cX1_setWeight 50 = .ok (.iastore, 1) := by decide +kernel
theorem dX1_setWeight_51 : decode cX1_setWeight 51 = .ok (.iload_n 3, 1) := by decide +kernel
theorem dX1_setWeight_52 : decode cX1_setWeight 52 = .ok (.ireturn, 1) := by decide +kernel
set_option maxRecDepth 20000 in
theorem ggX1_lead_X1_isChord : GoodIn wsX1_lead wsX1_isChord := goodIn_r _ [6, 7, 8, 9, 5, 10, 106, 107, 108, 109, 110, 111] (by decide +kernel) (by decide +kernel)
set_option maxRecDepth 20000 in
theorem gX1_lead_X1_isChord : GoodIn wsX1_lead (wsV RX1 124 RX1 yX1_isChord wsX1_isChord) := goodIn_app (goodIn_of _ (by decide +kernel)) ggX1_lead_X1_isChord
set_option maxRecDepth 20000 in
theorem ggX1_lead_X1_no : GoodIn wsX1_lead wsX1_no := goodIn_r _ [14, 1, 106, 107, 108, 109, 110, 111] (by decide +kernel) (by decide +kernel)
set_option maxRecDepth 20000 in
theorem gX1_lead_X1_no : GoodIn wsX1_lead (wsV RX1 121 RX1 yX1_no wsX1_no) := goodIn_app (goodIn_of _ (by decide +kernel)) ggX1_lead_X1_no
set_option maxRecDepth 20000 in
theorem ggX1_lead_X1_isLed : GoodIn wsX1_lead wsX1_isLed := goodIn_r _ [18, 19, 20, 21, 5, 22, 23, 24, 25, 26, 27, 28, 29, 30, 7, 31, 32, 33, 34, 35, 36, 37, 38, 39, 40, 41, 42, 43, 44, 45, 46, 47, 48, 49, 50, 51, 52, 53, 54, 55, 56, 57, 58, 59, 60, 61, 62, 63, 64, 65, 66, 67, 68, 69, 70, 71, 72, 73, 74, 75, 76, 77, 78, 79, 80, 81, 82, 83, 84, 85, 86, 87, 88, 89, 90, 91, 92, 93, 94, 95, 96, 97, 98, 99, 100, 101, 102, 103, 104, 105, 106, 107, 108, 109, 110, 111] (by decide +kernel) (by decide +kernel)
set_option maxRecDepth 20000 in
theorem gX1_lead_X1_isLed : GoodIn wsX1_lead (wsV RX1 127 RX1 yX1_isLed wsX1_isLed) := goodIn_app (goodIn_of _ (by decide +kernel)) ggX1_lead_X1_isLed
set_option maxRecDepth 20000 in
theorem ggX1_lead_X1_cost : GoodIn wsX1_lead wsX1_cost := goodIn_r _ [58, 59, 51, 52, 53, 5, 54, 31, 32, 33, 34, 35, 60, 61, 62, 63, 64, 65, 29, 66, 67, 68, 69, 70, 71, 72, 73, 74, 47, 48, 49, 50, 39, 26, 40, 41, 42, 75, 76, 77, 78, 79, 80, 81, 82, 83, 84, 85, 86, 87, 88, 89, 90, 91, 92, 93, 94, 95, 96, 97, 98, 99, 100, 101, 102, 103, 104, 105, 106, 107, 108, 109, 110, 111] (by decide +kernel) (by decide +kernel)
set_option maxRecDepth 20000 in
theorem gX1_lead_X1_cost : GoodIn wsX1_lead (wsV RX1 110 RX1 yX1_cost wsX1_cost) := goodIn_app (goodIn_of _ (by decide +kernel)) ggX1_lead_X1_cost
theorem dX1_lead_0 : decode cX1_lead 0 = .ok (.aload_n 0, 1) := by decide +kernel
theorem dX1_lead_1 : decode cX1_lead 1 = .ok (.iconst 0, 1) := by decide +kernel
theorem dX1_lead_2 : decode cX1_lead 2 = .ok (.putfield 19, 3) := by decide +kernel
theorem dX1_lead_5 : decode cX1_lead 5 = .ok (.aload_n 0, 1) := by decide +kernel
theorem dX1_lead_6 : decode cX1_lead 6 = .ok (.iload_n 1, 1) := by decide +kernel
theorem dX1_lead_7 : decode cX1_lead 7 = .ok (.invokevirtual 124, 3) := by decide +kernel
theorem dX1_lead_10 : decode cX1_lead 10 = .ok (.ifCond .ne 9, 3) := by decide +kernel
theorem dX1_lead_13 : decode cX1_lead 13 = .ok (.aload_n 0, 1) := by decide +kernel
theorem dX1_lead_14 : decode cX1_lead 14 = .ok (.iconst 1, 1) := by decide +kernel
theorem dX1_lead_15 : decode cX1_lead 15 = .ok (.invokevirtual 121, 3) := by decide +kernel
theorem dX1_lead_18 : decode cX1_lead 18 = .ok (.ireturn, 1) := by decide +kernel
theorem dX1_lead_19 : decode cX1_lead 19 = .ok (.aload_n 0, 1) := by decide +kernel
theorem dX1_lead_20 : decode cX1_lead 20 = .ok (.iload_n 1, 1) := by decide +kernel
theorem dX1_lead_21 : decode cX1_lead 21 = .ok (.invokevirtual 127, 3) := by decide +kernel
theorem dX1_lead_24 : decode cX1_lead 24 = .ok (.ifCond .eq 11, 3) := by decide +kernel
theorem dX1_lead_27 : decode cX1_lead 27 = .ok (.aload_n 0, 1) := by decide +kernel
theorem dX1_lead_28 : decode cX1_lead 28 = .ok (.iload_n 1, 1) := by decide +kernel
theorem dX1_lead_29 : decode cX1_lead 29 = .ok (.invokevirtual 110, 3) := by decide +kernel
theorem dX1_lead_32 : decode cX1_lead 32 = .ok (.goto 8, 3) := by decide +kernel
theorem dX1_lead_35 : decode cX1_lead 35 = .ok (.aload_n 0, 1) := by decide +kernel
theorem dX1_lead_36 : decode cX1_lead 36 = .ok (.iconst 2, 1) := by decide +kernel
theorem dX1_lead_37 : decode cX1_lead 37 = .ok (.invokevirtual 121, 3) := by decide +kernel
theorem dX1_lead_40 : decode cX1_lead 40 = .ok (.ireturn, 1) := by decide +kernel
set_option maxRecDepth 20000 in
theorem ggX1_leadAll_X1_isLed : GoodIn wsX1_leadAll wsX1_isLed := goodIn_r _ [7, 8, 9, 10, 6, 11, 12, 13, 14, 15, 16, 17, 18, 19, 2, 20, 21, 22, 23, 24, 25, 26, 27, 28, 29, 30, 31, 32, 33, 34, 35, 36, 37, 38, 39, 40, 41, 42, 43, 44, 45, 46, 47, 48, 49, 50, 51, 52, 53, 54, 55, 56, 57, 58, 59, 60, 61, 62, 63, 64, 65, 66, 67, 68, 69, 70, 71, 72, 73, 74, 75, 76, 77, 78, 79, 80, 81, 82, 83, 84, 85, 86, 87, 88, 89, 90, 91, 92, 93, 94, 95, 96, 97, 98, 99, 100] (by decide +kernel) (by decide +kernel)
set_option maxRecDepth 20000 in
theorem gX1_leadAll_X1_isLed : GoodIn wsX1_leadAll (wsV RX1 127 RX1 yX1_isLed wsX1_isLed) := goodIn_app (goodIn_of _ (by decide +kernel)) ggX1_leadAll_X1_isLed
theorem dX1_leadAll_0 : decode cX1_leadAll 0 = .ok (.aload_n 0, 1) := by decide +kernel
theorem dX1_leadAll_1 : decode cX1_leadAll 1 = .ok (.iconst 0, 1) := by decide +kernel
theorem dX1_leadAll_2 : decode cX1_leadAll 2 = .ok (.putfield 19, 3) := by decide +kernel
theorem dX1_leadAll_5 : decode cX1_leadAll 5 = .ok (.iconst 0, 1) := by decide +kernel
theorem dX1_leadAll_6 : decode cX1_leadAll 6 = .ok (.istore_n 1, 1) := by decide +kernel
theorem dX1_leadAll_7 : decode cX1_leadAll 7 = .ok (.iconst 0, 1) := by decide +kernel
theorem dX1_leadAll_8 : decode cX1_leadAll 8 = .ok (.istore_n 2, 1) := by decide +kernel
theorem dX1_leadAll_9 : decode cX1_leadAll 9 = .ok (.iload_n 2, 1) := by decide +kernel
theorem dX1_leadAll_10 : decode cX1_leadAll 10 = .ok (.aload_n 0, 1) := by decide +kernel
theorem dX1_leadAll_11 : decode cX1_leadAll 11 = .ok (.getfield 23, 3) := by decide +kernel
theorem dX1_leadAll_14 : decode cX1_leadAll 14 = .ok (.if_icmp .ge 25, 3) := by decide +kernel
theorem dX1_leadAll_17 : decode cX1_leadAll 17 = .ok (.iload_n 1, 1) := by decide +kernel
theorem dX1_leadAll_18 : decode cX1_leadAll 18 = .ok (.aload_n 0, 1) := by decide +kernel
theorem dX1_leadAll_19 : decode cX1_leadAll 19 = .ok (.iload_n 2, 1) := by decide +kernel
theorem dX1_leadAll_20 : decode cX1_leadAll 20 = .ok (.invokevirtual 127, 3) := by decide +kernel
theorem dX1_leadAll_23 : decode cX1_leadAll 23 = .ok (.ifCond .eq 7, 3) := by decide +kernel
theorem dX1_leadAll_26 : decode cX1_leadAll 26 = .ok (.iconst 1, 1) := by decide +kernel
theorem dX1_leadAll_27 : decode cX1_leadAll 27 = .ok (.goto 4, 3) := by decide +kernel
theorem dX1_leadAll_30 : decode cX1_leadAll 30 = .ok (.iconst 0, 1) := by decide +kernel
theorem dX1_leadAll_31 : decode cX1_leadAll 31 = .ok (.iadd, 1) := by decide +kernel
theorem dX1_leadAll_32 : decode cX1_leadAll 32 = .ok (.istore_n 1, 1) := by decide +kernel
theorem dX1_leadAll_33 : decode cX1_leadAll 33 = .ok (.iinc 2 1, 3) := by decide +kernel
theorem dX1_leadAll_36 : decode cX1_leadAll 36 = .ok (.goto (-27), 3) := by decide +kernel
theorem dX1_leadAll_39 : decode cX1_leadAll 39 = .ok (.iload_n 1, 1) := by decide +kernel
theorem dX1_leadAll_40 : decode cX1_leadAll 40 = .ok (.ireturn, 1) := by decide +kernel
set_option maxRecDepth 20000 in
theorem ggX1_note_X1_isChord : GoodIn wsX1_note wsX1_isChord := goodIn_r _ [6, 7, 8, 9, 5, 10, 20, 21, 22, 23, 24, 25] (by decide +kernel) (by decide +kernel)
set_option maxRecDepth 20000 in
theorem gX1_note_X1_isChord : GoodIn wsX1_note (wsV RX1 124 RX1 yX1_isChord wsX1_isChord) := goodIn_app (goodIn_of _ (by decide +kernel)) ggX1_note_X1_isChord
set_option maxRecDepth 20000 in
theorem ggX1_note_X1_isIn : GoodIn wsX1_note wsX1_isIn := goodIn_r _ [10] (by decide +kernel) (by decide +kernel)
set_option maxRecDepth 20000 in
theorem gX1_note_X1_isIn : GoodIn wsX1_note (va_wsS RX1 26 yX1_isIn wsX1_isIn) := goodIn_app (goodIn_of _ (by decide +kernel)) ggX1_note_X1_isIn
set_option maxRecDepth 20000 in
theorem ggX1_note_X1_at : GoodIn wsX1_note wsX1_at := goodIn_r _ [14, 15, 20, 21, 22, 23, 24, 25] (by decide +kernel) (by decide +kernel)
set_option maxRecDepth 20000 in
theorem gX1_note_X1_at : GoodIn wsX1_note (wsV RX1 46 RX1 yX1_at wsX1_at) := goodIn_app (goodIn_of _ (by decide +kernel)) ggX1_note_X1_at
set_option maxRecDepth 20000 in
theorem ggX1_note_X1_no : GoodIn wsX1_note wsX1_no := goodIn_r _ [19, 1, 20, 21, 22, 23, 24, 25] (by decide +kernel) (by decide +kernel)
set_option maxRecDepth 20000 in
theorem gX1_note_X1_no : GoodIn wsX1_note (wsV RX1 121 RX1 yX1_no wsX1_no) := goodIn_app (goodIn_of _ (by decide +kernel)) ggX1_note_X1_no
theorem dX1_note_0 : decode cX1_note 0 = .ok (.aload_n 0, 1) := by decide +kernel
theorem dX1_note_1 : decode cX1_note 1 = .ok (.iconst 0, 1) := by decide +kernel
theorem dX1_note_2 : decode cX1_note 2 = .ok (.putfield 19, 3) := by decide +kernel
theorem dX1_note_5 : decode cX1_note 5 = .ok (.aload_n 0, 1) := by decide +kernel
theorem dX1_note_6 : decode cX1_note 6 = .ok (.iload_n 1, 1) := by decide +kernel
theorem dX1_note_7 : decode cX1_note 7 = .ok (.invokevirtual 124, 3) := by decide +kernel
theorem dX1_note_10 : decode cX1_note 10 = .ok (.ifCond .eq 21, 3) := by decide +kernel
theorem dX1_note_13 : decode cX1_note 13 = .ok (.iload_n 2, 1) := by decide +kernel
theorem dX1_note_14 : decode cX1_note 14 = .ok (.iconst 0, 1) := by decide +kernel
theorem dX1_note_15 : decode cX1_note 15 = .ok (.iconst 3, 1) := by decide +kernel
theorem dX1_note_16 : decode cX1_note 16 = .ok (.invokestatic 26, 3) := by decide +kernel
theorem dX1_note_19 : decode cX1_note 19 = .ok (.ifCond .eq 12, 3) := by decide +kernel
theorem dX1_note_22 : decode cX1_note 22 = .ok (.aload_n 0, 1) := by decide +kernel
theorem dX1_note_23 : decode cX1_note 23 = .ok (.iload_n 1, 1) := by decide +kernel
theorem dX1_note_24 : decode cX1_note 24 = .ok (.iload_n 2, 1) := by decide +kernel
theorem dX1_note_25 : decode cX1_note 25 = .ok (.invokevirtual 46, 3) := by decide +kernel
theorem dX1_note_28 : decode cX1_note 28 = .ok (.goto 8, 3) := by decide +kernel
theorem dX1_note_31 : decode cX1_note 31 = .ok (.aload_n 0, 1) := by decide +kernel
theorem dX1_note_32 : decode cX1_note 32 = .ok (.iconst 1, 1) := by decide +kernel
theorem dX1_note_33 : decode cX1_note 33 = .ok (.invokevirtual 121, 3) := by decide +kernel
theorem dX1_note_36 : decode cX1_note 36 = .ok (.ireturn, 1) := by decide +kernel
set_option maxRecDepth 20000 in
theorem ggX1_chordTold_X1_at : GoodIn wsX1_chordTold wsX1_at := goodIn_r _ [6, 7, 72, 73, 74, 75, 76, 77] (by decide +kernel) (by decide +kernel)
set_option maxRecDepth 20000 in
theorem gX1_chordTold_X1_at : GoodIn wsX1_chordTold (wsV RX1 46 RX1 yX1_at wsX1_at) := goodIn_app (goodIn_of _ (by decide +kernel)) ggX1_chordTold_X1_at
set_option maxRecDepth 20000 in
theorem ggX1_chordTold_X1_isSet : GoodIn wsX1_chordTold wsX1_isSet := goodIn_r _ [11, 2, 3, 4, 5, 6, 7, 72, 73, 74, 75, 76, 77] (by decide +kernel) (by decide +kernel)
set_option maxRecDepth 20000 in
theorem gX1_chordTold_X1_isSet : GoodIn wsX1_chordTold (wsV RX1 56 RX1 yX1_isSet wsX1_isSet) := goodIn_app (goodIn_of _ (by decide +kernel)) ggX1_chordTold_X1_isSet
set_option maxRecDepth 20000 in
theorem ggX1_chordTold_X1_isRight : GoodIn wsX1_chordTold wsX1_isRight := goodIn_r _ [15, 16, 1, 8, 9, 10, 5, 11, 2, 3, 4, 6, 7, 17, 18, 19, 72, 73, 74, 75, 76, 77] (by decide +kernel) (by decide +kernel)
set_option maxRecDepth 20000 in
theorem gX1_chordTold_X1_isRight : GoodIn wsX1_chordTold (wsV RX1 94 RX1 yX1_isRight wsX1_isRight) := goodIn_app (goodIn_of _ (by decide +kernel)) ggX1_chordTold_X1_isRight
set_option maxRecDepth 20000 in
theorem ggX1_chordTold_X1_steps : GoodIn wsX1_chordTold wsX1_steps := goodIn_r _ [23, 24, 25, 26, 27, 28, 29, 30, 5, 31, 8, 9, 10, 11, 2, 3, 4, 6, 7, 32, 33, 34, 35, 72, 73, 74, 75, 76, 77] (by decide +kernel) (by decide +kernel)
set_option maxRecDepth 20000 in
theorem gX1_chordTold_X1_steps : GoodIn wsX1_chordTold (wsV RX1 91 RX1 yX1_steps wsX1_steps) := goodIn_app (goodIn_of _ (by decide +kernel)) ggX1_chordTold_X1_steps
set_option maxRecDepth 20000 in
theorem ggX1_chordTold_X1_cost : GoodIn wsX1_chordTold wsX1_cost := goodIn_r _ [39, 40, 8, 9, 10, 5, 11, 2, 3, 4, 6, 7, 20, 21, 22, 23, 24, 25, 26, 27, 28, 29, 30, 31, 32, 33, 34, 35, 12, 13, 14, 15, 16, 1, 17, 18, 19, 41, 42, 43, 44, 45, 46, 47, 48, 49, 50, 51, 52, 53, 54, 55, 56, 57, 58, 59, 60, 61, 62, 63, 64, 65, 66, 67, 68, 69, 70, 71, 72, 73, 74, 75, 76, 77] (by decide +kernel) (by decide +kernel)
set_option maxRecDepth 20000 in
theorem gX1_chordTold_X1_cost : GoodIn wsX1_chordTold (wsV RX1 110 RX1 yX1_cost wsX1_cost) := goodIn_app (goodIn_of _ (by decide +kernel)) ggX1_chordTold_X1_cost
theorem dX1_chordTold_0 : decode cX1_chordTold 0 = .ok (.iload_n 2, 1) := by decide +kernel
theorem dX1_chordTold_1 : decode cX1_chordTold 1 = .ok (.tableswitch 86 0 4 #[35, 42, 52, 66, 80], 35) := by decide +kernel
theorem dX1_chordTold_36 : decode cX1_chordTold 36 = .ok (.aload_n 0, 1) := by decide +kernel
theorem dX1_chordTold_37 : decode cX1_chordTold 37 = .ok (.getfield 13, 3) := by decide +kernel
theorem dX1_chordTold_40 : decode cX1_chordTold 40 = .ok (.iload_n 1, 1) := by decide +kernel
theorem dX1_chordTold_41 : decode cX1_chordTold 41 = .ok (.iaload, 1) := by decide +kernel
theorem dX1_chordTold_42 : decode cX1_chordTold 42 = .ok (.ireturn, 1) := by decide +kernel
theorem dX1_chordTold_43 : decode cX1_chordTold 43 = .ok (.aload_n 0, 1) := by decide +kernel
theorem dX1_chordTold_44 : decode cX1_chordTold 44 = .ok (.iload_n 1, 1) := by decide +kernel
theorem dX1_chordTold_45 : decode cX1_chordTold 45 = .ok (.iconst 0, 1) := by decide +kernel
theorem dX1_chordTold_46 : decode cX1_chordTold 46 = .ok (.invokevirtual 46, 3) := by decide +kernel
theorem dX1_chordTold_49 : decode cX1_chordTold 49 = .ok (.bipush 7, 2) := by decide +kernel
theorem dX1_chordTold_51 : decode cX1_chordTold 51 = .ok (.irem, 1) := by decide +kernel
theorem dX1_chordTold_52 : decode cX1_chordTold 52 = .ok (.ireturn, 1) := by decide +kernel
theorem dX1_chordTold_53 : decode cX1_chordTold 53 = .ok (.aload_n 0, 1) := by decide +kernel
theorem dX1_chordTold_54 : decode cX1_chordTold 54 = .ok (.iload_n 1, 1) := by decide +kernel
theorem dX1_chordTold_55 : decode cX1_chordTold 55 = .ok (.invokevirtual 56, 3) := by decide +kernel
theorem dX1_chordTold_58 : decode cX1_chordTold 58 = .ok (.ifCond .eq 7, 3) := by decide +kernel
theorem dX1_chordTold_61 : decode cX1_chordTold 61 = .ok (.iconst 1, 1) := by decide +kernel
theorem dX1_chordTold_62 : decode cX1_chordTold 62 = .ok (.goto 4, 3) := by decide +kernel
theorem dX1_chordTold_65 : decode cX1_chordTold 65 = .ok (.iconst 0, 1) := by decide +kernel
theorem dX1_chordTold_66 : decode cX1_chordTold 66 = .ok (.ireturn, 1) := by decide +kernel
theorem dX1_chordTold_67 : decode cX1_chordTold 67 = .ok (.aload_n 0, 1) := by decide +kernel
theorem dX1_chordTold_68 : decode cX1_chordTold 68 = .ok (.iload_n 1, 1) := by decide +kernel
theorem dX1_chordTold_69 : decode cX1_chordTold 69 = .ok (.invokevirtual 94, 3) := by decide +kernel
theorem dX1_chordTold_72 : decode cX1_chordTold 72 = .ok (.ifCond .eq 7, 3) := by decide +kernel
theorem dX1_chordTold_75 : decode cX1_chordTold 75 = .ok (.iconst 1, 1) := by decide +kernel
theorem dX1_chordTold_76 : decode cX1_chordTold 76 = .ok (.goto 4, 3) := by decide +kernel
theorem dX1_chordTold_79 : decode cX1_chordTold 79 = .ok (.iconst 0, 1) := by decide +kernel
theorem dX1_chordTold_80 : decode cX1_chordTold 80 = .ok (.ireturn, 1) := by decide +kernel
theorem dX1_chordTold_81 : decode cX1_chordTold 81 = .ok (.aload_n 0, 1) := by decide +kernel
theorem dX1_chordTold_82 : decode cX1_chordTold 82 = .ok (.iload_n 1, 1) := by decide +kernel
theorem dX1_chordTold_83 : decode cX1_chordTold 83 = .ok (.invokevirtual 91, 3) := by decide +kernel
theorem dX1_chordTold_86 : decode cX1_chordTold 86 = .ok (.ireturn, 1) := by decide +kernel
theorem dX1_chordTold_87 : decode cX1_chordTold 87 = .ok (.aload_n 0, 1) := by decide +kernel
theorem dX1_chordTold_88 : decode cX1_chordTold 88 = .ok (.iload_n 1, 1) := by decide +kernel
theorem dX1_chordTold_89 : decode cX1_chordTold 89 = .ok (.invokevirtual 110, 3) := by decide +kernel
theorem dX1_chordTold_92 : decode cX1_chordTold 92 = .ok (.ireturn, 1) := by decide +kernel
set_option maxRecDepth 20000 in
theorem ggX1_told_X1_isChord : GoodIn wsX1_told wsX1_isChord := goodIn_r _ [6, 7, 8, 9, 5, 10, 89, 90, 91, 92, 93, 94] (by decide +kernel) (by decide +kernel)
set_option maxRecDepth 20000 in
theorem gX1_told_X1_isChord : GoodIn wsX1_told (wsV RX1 124 RX1 yX1_isChord wsX1_isChord) := goodIn_app (goodIn_of _ (by decide +kernel)) ggX1_told_X1_isChord
set_option maxRecDepth 20000 in
theorem ggX1_told_X1_isIn : GoodIn wsX1_told wsX1_isIn := goodIn_r _ [10] (by decide +kernel) (by decide +kernel)
set_option maxRecDepth 20000 in
theorem gX1_told_X1_isIn : GoodIn wsX1_told (va_wsS RX1 26 yX1_isIn wsX1_isIn) := goodIn_app (goodIn_of _ (by decide +kernel)) ggX1_told_X1_isIn
set_option maxRecDepth 20000 in
theorem ggX1_told_X1_chordTold : GoodIn wsX1_told wsX1_chordTold := goodIn_r _ [14, 15, 16, 17, 18, 5, 19, 20, 21, 22, 23, 24, 25, 26, 27, 28, 29, 30, 31, 32, 33, 34, 35, 36, 37, 38, 39, 40, 41, 42, 43, 44, 45, 46, 47, 48, 49, 50, 51, 52, 53, 54, 55, 56, 57, 58, 59, 60, 61, 62, 63, 64, 65, 66, 67, 68, 69, 70, 71, 72, 73, 74, 75, 76, 77, 78, 79, 80, 81, 82, 83, 84, 89, 90, 91, 92, 93, 94] (by decide +kernel) (by decide +kernel)
set_option maxRecDepth 20000 in
theorem gX1_told_X1_chordTold : GoodIn wsX1_told (wsV RX1 130 RX1 yX1_chordTold wsX1_chordTold) := goodIn_app (goodIn_of _ (by decide +kernel)) ggX1_told_X1_chordTold
set_option maxRecDepth 20000 in
theorem ggX1_told_X1_no : GoodIn wsX1_told wsX1_no := goodIn_r _ [88, 1, 89, 90, 91, 92, 93, 94] (by decide +kernel) (by decide +kernel)
set_option maxRecDepth 20000 in
theorem gX1_told_X1_no : GoodIn wsX1_told (wsV RX1 121 RX1 yX1_no wsX1_no) := goodIn_app (goodIn_of _ (by decide +kernel)) ggX1_told_X1_no
theorem dX1_told_0 : decode cX1_told 0 = .ok (.aload_n 0, 1) := by decide +kernel
theorem dX1_told_1 : decode cX1_told 1 = .ok (.iconst 0, 1) := by decide +kernel
theorem dX1_told_2 : decode cX1_told 2 = .ok (.putfield 19, 3) := by decide +kernel
theorem dX1_told_5 : decode cX1_told 5 = .ok (.aload_n 0, 1) := by decide +kernel
theorem dX1_told_6 : decode cX1_told 6 = .ok (.iload_n 1, 1) := by decide +kernel
theorem dX1_told_7 : decode cX1_told 7 = .ok (.invokevirtual 124, 3) := by decide +kernel
theorem dX1_told_10 : decode cX1_told 10 = .ok (.ifCond .eq 21, 3) := by decide +kernel
theorem dX1_told_13 : decode cX1_told 13 = .ok (.iload_n 2, 1) := by decide +kernel
theorem dX1_told_14 : decode cX1_told 14 = .ok (.iconst 0, 1) := by decide +kernel
theorem dX1_told_15 : decode cX1_told 15 = .ok (.iconst 5, 1) := by decide +kernel
theorem dX1_told_16 : decode cX1_told 16 = .ok (.invokestatic 26, 3) := by decide +kernel
theorem dX1_told_19 : decode cX1_told 19 = .ok (.ifCond .eq 12, 3) := by decide +kernel
theorem dX1_told_22 : decode cX1_told 22 = .ok (.aload_n 0, 1) := by decide +kernel
theorem dX1_told_23 : decode cX1_told 23 = .ok (.iload_n 1, 1) := by decide +kernel
theorem dX1_told_24 : decode cX1_told 24 = .ok (.iload_n 2, 1) := by decide +kernel
theorem dX1_told_25 : decode cX1_told 25 = .ok (.invokevirtual 130, 3) := by decide +kernel
theorem dX1_told_28 : decode cX1_told 28 = .ok (.goto 8, 3) := by decide +kernel
theorem dX1_told_31 : decode cX1_told 31 = .ok (.aload_n 0, 1) := by decide +kernel
theorem dX1_told_32 : decode cX1_told 32 = .ok (.iconst 1, 1) := by decide +kernel
theorem dX1_told_33 : decode cX1_told 33 = .ok (.invokevirtual 121, 3) := by decide +kernel
theorem dX1_told_36 : decode cX1_told 36 = .ok (.ireturn, 1) := by decide +kernel
set_option maxRecDepth 20000 in
theorem ggX1_faults_X1_isChord : GoodIn wsX1_faults wsX1_isChord := goodIn_r _ [6, 7, 8, 9, 5, 10, 71, 72, 73, 74, 75, 76] (by decide +kernel) (by decide +kernel)
set_option maxRecDepth 20000 in
theorem gX1_faults_X1_isChord : GoodIn wsX1_faults (wsV RX1 124 RX1 yX1_isChord wsX1_isChord) := goodIn_app (goodIn_of _ (by decide +kernel)) ggX1_faults_X1_isChord
set_option maxRecDepth 20000 in
theorem ggX1_faults_X1_isIn : GoodIn wsX1_faults wsX1_isIn := goodIn_r _ [10] (by decide +kernel) (by decide +kernel)
set_option maxRecDepth 20000 in
theorem gX1_faults_X1_isIn : GoodIn wsX1_faults (va_wsS RX1 26 yX1_isIn wsX1_isIn) := goodIn_app (goodIn_of _ (by decide +kernel)) ggX1_faults_X1_isIn
set_option maxRecDepth 20000 in
theorem ggX1_faults_X1_faultsOf : GoodIn wsX1_faults wsX1_faultsOf := goodIn_r _ [14, 15, 16, 17, 5, 18, 19, 20, 21, 22, 23, 24, 25, 26, 27, 28, 29, 30, 31, 32, 33, 34, 35, 36, 37, 38, 39, 40, 41, 42, 43, 44, 45, 46, 47, 48, 49, 50, 51, 52, 53, 54, 55, 56, 57, 58, 59, 60, 61, 62, 63, 64, 65, 66, 71, 72, 73, 74, 75, 76] (by decide +kernel) (by decide +kernel)
set_option maxRecDepth 20000 in
theorem gX1_faults_X1_faultsOf : GoodIn wsX1_faults (wsV RX1 97 RX1 yX1_faultsOf wsX1_faultsOf) := goodIn_app (goodIn_of _ (by decide +kernel)) ggX1_faults_X1_faultsOf
set_option maxRecDepth 20000 in
theorem ggX1_faults_X1_no : GoodIn wsX1_faults wsX1_no := goodIn_r _ [70, 1, 71, 72, 73, 74, 75, 76] (by decide +kernel) (by decide +kernel)
set_option maxRecDepth 20000 in
theorem gX1_faults_X1_no : GoodIn wsX1_faults (wsV RX1 121 RX1 yX1_no wsX1_no) := goodIn_app (goodIn_of _ (by decide +kernel)) ggX1_faults_X1_no
theorem dX1_faults_0 : decode cX1_faults 0 = .ok (.aload_n 0, 1) := by decide +kernel
theorem dX1_faults_1 : decode cX1_faults 1 = .ok (.iconst 0, 1) := by decide +kernel
theorem dX1_faults_2 : decode cX1_faults 2 = .ok (.putfield 19, 3) := by decide +kernel
theorem dX1_faults_5 : decode cX1_faults 5 = .ok (.aload_n 0, 1) := by decide +kernel
theorem dX1_faults_6 : decode cX1_faults 6 = .ok (.iload_n 1, 1) := by decide +kernel
theorem dX1_faults_7 : decode cX1_faults 7 = .ok (.invokevirtual 124, 3) := by decide +kernel
theorem dX1_faults_10 : decode cX1_faults 10 = .ok (.ifCond .eq 22, 3) := by decide +kernel
theorem dX1_faults_13 : decode cX1_faults 13 = .ok (.iload_n 2, 1) := by decide +kernel
theorem dX1_faults_14 : decode cX1_faults 14 = .ok (.iconst 0, 1) := by decide +kernel
theorem dX1_faults_15 : decode cX1_faults 15 = .ok (.bipush 7, 2) := by decide +kernel
theorem dX1_faults_17 : decode cX1_faults 17 = .ok (.invokestatic 26, 3) := by decide +kernel
theorem dX1_faults_20 : decode cX1_faults 20 = .ok (.ifCond .eq 12, 3) := by decide +kernel
theorem dX1_faults_23 : decode cX1_faults 23 = .ok (.aload_n 0, 1) := by decide +kernel
theorem dX1_faults_24 : decode cX1_faults 24 = .ok (.iload_n 1, 1) := by decide +kernel
theorem dX1_faults_25 : decode cX1_faults 25 = .ok (.iload_n 2, 1) := by decide +kernel
theorem dX1_faults_26 : decode cX1_faults 26 = .ok (.invokevirtual 97, 3) := by decide +kernel
theorem dX1_faults_29 : decode cX1_faults 29 = .ok (.goto 8, 3) := by decide +kernel
theorem dX1_faults_32 : decode cX1_faults 32 = .ok (.aload_n 0, 1) := by decide +kernel
theorem dX1_faults_33 : decode cX1_faults 33 = .ok (.iconst 1, 1) := by decide +kernel
theorem dX1_faults_34 : decode cX1_faults 34 = .ok (.invokevirtual 121, 3) := by decide +kernel
theorem dX1_faults_37 : decode cX1_faults 37 = .ok (.ireturn, 1) := by decide +kernel
set_option maxRecDepth 20000 in
theorem ggX1_all_X1_chordTold : GoodIn wsX1_all wsX1_chordTold := goodIn_r _ [6, 7, 8, 9, 10, 5, 11, 12, 13, 14, 15, 16, 17, 18, 19, 20, 21, 22, 23, 24, 25, 26, 27, 28, 29, 30, 31, 32, 33, 34, 35, 36, 37, 38, 39, 40, 41, 42, 43, 44, 45, 46, 47, 48, 49, 50, 51, 52, 53, 54, 55, 56, 57, 58, 59, 60, 61, 62, 63, 64, 65, 66, 67, 68, 69, 70, 71, 72, 73, 74, 75, 76, 77, 78, 79, 80, 81, 82] (by decide +kernel) (by decide +kernel)
set_option maxRecDepth 20000 in
theorem gX1_all_X1_chordTold : GoodIn wsX1_all (wsV RX1 130 RX1 yX1_chordTold wsX1_chordTold) := goodIn_app (goodIn_of _ (by decide +kernel)) ggX1_all_X1_chordTold
theorem dX1_all_0 : decode cX1_all 0 = .ok (.iconst 0, 1) := by decide +kernel
theorem dX1_all_1 : decode cX1_all 1 = .ok (.istore_n 2, 1) := by decide +kernel
theorem dX1_all_2 : decode cX1_all 2 = .ok (.iconst 0, 1) := by decide +kernel
theorem dX1_all_3 : decode cX1_all 3 = .ok (.istore_n 3, 1) := by decide +kernel
theorem dX1_all_4 : decode cX1_all 4 = .ok (.iload_n 3, 1) := by decide +kernel
theorem dX1_all_5 : decode cX1_all 5 = .ok (.aload_n 0, 1) := by decide +kernel
theorem dX1_all_6 : decode cX1_all 6 = .ok (.getfield 23, 3) := by decide +kernel
theorem dX1_all_9 : decode cX1_all 9 = .ok (.if_icmp .ge 18, 3) := by decide +kernel
theorem dX1_all_12 : decode cX1_all 12 = .ok (.iload_n 2, 1) := by decide +kernel
theorem dX1_all_13 : decode cX1_all 13 = .ok (.aload_n 0, 1) := by decide +kernel
theorem dX1_all_14 : decode cX1_all 14 = .ok (.iload_n 3, 1) := by decide +kernel
theorem dX1_all_15 : decode cX1_all 15 = .ok (.iload_n 1, 1) := by decide +kernel
theorem dX1_all_16 : decode cX1_all 16 = .ok (.invokevirtual 130, 3) := by decide +kernel
theorem dX1_all_19 : decode cX1_all 19 = .ok (.iadd, 1) := by decide +kernel
theorem dX1_all_20 : decode cX1_all 20 = .ok (.istore_n 2, 1) := by decide +kernel
theorem dX1_all_21 : decode cX1_all 21 = .ok (.iinc 3 1, 3) := by decide +kernel
theorem dX1_all_24 : decode cX1_all 24 = .ok (.goto (-20), 3) := by decide +kernel
theorem dX1_all_27 : decode cX1_all 27 = .ok (.iload_n 2, 1) := by decide +kernel
theorem dX1_all_28 : decode cX1_all 28 = .ok (.ireturn, 1) := by decide +kernel
set_option maxRecDepth 20000 in
theorem ggX1_allFaults_X1_faultsOf : GoodIn wsX1_allFaults wsX1_faultsOf := goodIn_r _ [6, 7, 8, 9, 5, 10, 11, 12, 13, 14, 15, 16, 17, 18, 19, 20, 21, 22, 23, 24, 25, 26, 27, 28, 29, 30, 31, 32, 33, 34, 35, 36, 37, 38, 39, 40, 41, 42, 43, 44, 45, 46, 47, 48, 49, 50, 51, 52, 53, 54, 55, 56, 57, 58, 59, 60, 61, 62, 63, 64] (by decide +kernel) (by decide +kernel)
set_option maxRecDepth 20000 in
theorem gX1_allFaults_X1_faultsOf : GoodIn wsX1_allFaults (wsV RX1 97 RX1 yX1_faultsOf wsX1_faultsOf) := goodIn_app (goodIn_of _ (by decide +kernel)) ggX1_allFaults_X1_faultsOf
theorem dX1_allFaults_0 : decode cX1_allFaults 0 = .ok (.iconst 0, 1) := by decide +kernel
theorem dX1_allFaults_1 : decode cX1_allFaults 1 = .ok (.istore_n 1, 1) := by decide +kernel
theorem dX1_allFaults_2 : decode cX1_allFaults 2 = .ok (.iconst 0, 1) := by decide +kernel
theorem dX1_allFaults_3 : decode cX1_allFaults 3 = .ok (.istore_n 2, 1) := by decide +kernel
theorem dX1_allFaults_4 : decode cX1_allFaults 4 = .ok (.iload_n 2, 1) := by decide +kernel
theorem dX1_allFaults_5 : decode cX1_allFaults 5 = .ok (.bipush 8, 2) := by decide +kernel
theorem dX1_allFaults_7 : decode cX1_allFaults 7 = .ok (.aload_n 0, 1) := by decide +kernel
theorem dX1_allFaults_8 : decode cX1_allFaults 8 = .ok (.getfield 23, 3) := by decide +kernel
theorem dX1_allFaults_11 : decode cX1_allFaults 11 = .ok (.imul, 1) := by decide +kernel
theorem dX1_allFaults_12 : decode cX1_allFaults 12 = .ok (.if_icmp .ge 24, 3) := by decide +kernel
theorem dX1_allFaults_15 : decode cX1_allFaults 15 = .ok (.iload_n 1, 1) := by decide +kernel
theorem dX1_allFaults_16 : decode cX1_allFaults 16 = .ok (.aload_n 0, 1) := by decide +kernel
theorem dX1_allFaults_17 : decode cX1_allFaults 17 = .ok (.iload_n 2, 1) := by decide +kernel
theorem dX1_allFaults_18 : decode cX1_allFaults 18 = .ok (.bipush 8, 2) := by decide +kernel
theorem dX1_allFaults_20 : decode cX1_allFaults 20 = .ok (.idiv, 1) := by decide +kernel
theorem dX1_allFaults_21 : decode cX1_allFaults 21 = .ok (.iload_n 2, 1) := by decide +kernel
theorem dX1_allFaults_22 : decode cX1_allFaults 22 = .ok (.bipush 8, 2) := by decide +kernel
theorem dX1_allFaults_24 : decode cX1_allFaults 24 = .ok (.irem, 1) := by decide +kernel
theorem dX1_allFaults_25 : decode cX1_allFaults 25 = .ok (.invokevirtual 97, 3) := by decide +kernel
theorem dX1_allFaults_28 : decode cX1_allFaults 28 = .ok (.iadd, 1) := by decide +kernel
theorem dX1_allFaults_29 : decode cX1_allFaults 29 = .ok (.istore_n 1, 1) := by decide +kernel
theorem dX1_allFaults_30 : decode cX1_allFaults 30 = .ok (.iinc 2 1, 3) := by decide +kernel
theorem dX1_allFaults_33 : decode cX1_allFaults 33 = .ok (.goto (-29), 3) := by decide +kernel
theorem dX1_allFaults_36 : decode cX1_allFaults 36 = .ok (.iload_n 1, 1) := by decide +kernel
theorem dX1_allFaults_37 : decode cX1_allFaults 37 = .ok (.ireturn, 1) := by decide +kernel
set_option maxRecDepth 20000 in
theorem ggX1_counted_X1_all : GoodIn wsX1_counted wsX1_all := goodIn_r _ [7, 1, 8, 9, 10, 6, 11, 12, 13, 14, 15, 16, 17, 18, 19, 20, 21, 22, 23, 24, 25, 26, 27, 28, 29, 30, 31, 32, 33, 34, 35, 36, 37, 38, 39, 40, 41, 42, 43, 44, 45, 46, 47, 48, 49, 50, 51, 52, 53, 54, 55, 56, 57, 58, 59, 60, 61, 62, 63, 64, 65, 66, 2, 67, 68, 69, 70, 71, 72, 73, 74, 75, 76, 77, 78, 79, 80, 85, 86, 87, 88, 89, 90] (by decide +kernel) (by decide +kernel)
set_option maxRecDepth 20000 in
theorem gX1_counted_X1_all : GoodIn wsX1_counted (wsV RX1 133 RX1 yX1_all wsX1_all) := goodIn_app (goodIn_of _ (by decide +kernel)) ggX1_counted_X1_all
set_option maxRecDepth 20000 in
theorem ggX1_counted_X1_allFaults : GoodIn wsX1_counted wsX1_allFaults := goodIn_r _ [84, 1, 51, 52, 53, 6, 54, 38, 39, 40, 41, 18, 19, 20, 21, 13, 14, 15, 16, 17, 55, 56, 57, 58, 42, 43, 44, 45, 59, 60, 61, 62, 63, 64, 65, 66, 2, 67, 68, 69, 70, 71, 72, 73, 74, 75, 76, 34, 35, 36, 37, 77, 78, 79, 80, 12, 27, 28, 29, 85, 86, 87, 88, 89, 90] (by decide +kernel) (by decide +kernel)
set_option maxRecDepth 20000 in
theorem gX1_counted_X1_allFaults : GoodIn wsX1_counted (wsV RX1 136 RX1 yX1_allFaults wsX1_allFaults) := goodIn_app (goodIn_of _ (by decide +kernel)) ggX1_counted_X1_allFaults
theorem dX1_counted_0 : decode cX1_counted 0 = .ok (.iload_n 1, 1) := by decide +kernel
theorem dX1_counted_1 : decode cX1_counted 1 = .ok (.tableswitch 69 0 5 #[39, 44, 44, 52, 58, 63], 39) := by decide +kernel
theorem dX1_counted_40 : decode cX1_counted 40 = .ok (.aload_n 0, 1) := by decide +kernel
theorem dX1_counted_41 : decode cX1_counted 41 = .ok (.getfield 23, 3) := by decide +kernel
theorem dX1_counted_44 : decode cX1_counted 44 = .ok (.ireturn, 1) := by decide +kernel
theorem dX1_counted_45 : decode cX1_counted 45 = .ok (.aload_n 0, 1) := by decide +kernel
theorem dX1_counted_46 : decode cX1_counted 46 = .ok (.iload_n 1, 1) := by decide +kernel
theorem dX1_counted_47 : decode cX1_counted 47 = .ok (.iconst 1, 1) := by decide +kernel
theorem dX1_counted_48 : decode cX1_counted 48 = .ok (.iadd, 1) := by decide +kernel
theorem dX1_counted_49 : decode cX1_counted 49 = .ok (.invokevirtual 133, 3) := by decide +kernel
theorem dX1_counted_52 : decode cX1_counted 52 = .ok (.ireturn, 1) := by decide +kernel
theorem dX1_counted_53 : decode cX1_counted 53 = .ok (.aload_n 0, 1) := by decide +kernel
theorem dX1_counted_54 : decode cX1_counted 54 = .ok (.iconst 4, 1) := by decide +kernel
theorem dX1_counted_55 : decode cX1_counted 55 = .ok (.invokevirtual 133, 3) := by decide +kernel
theorem dX1_counted_58 : decode cX1_counted 58 = .ok (.ireturn, 1) := by decide +kernel
theorem dX1_counted_59 : decode cX1_counted 59 = .ok (.aload_n 0, 1) := by decide +kernel
theorem dX1_counted_60 : decode cX1_counted 60 = .ok (.invokevirtual 136, 3) := by decide +kernel
theorem dX1_counted_63 : decode cX1_counted 63 = .ok (.ireturn, 1) := by decide +kernel
theorem dX1_counted_64 : decode cX1_counted 64 = .ok (.aload_n 0, 1) := by decide +kernel
theorem dX1_counted_65 : decode cX1_counted 65 = .ok (.iconst 5, 1) := by decide +kernel
theorem dX1_counted_66 : decode cX1_counted 66 = .ok (.invokevirtual 133, 3) := by decide +kernel
theorem dX1_counted_69 : decode cX1_counted 69 = .ok (.ireturn, 1) := by decide +kernel
theorem dX1_counted_70 : decode cX1_counted 70 = .ok (.aload_n 0, 1) := by decide +kernel
theorem dX1_counted_71 : decode cX1_counted 71 = .ok (.getfield 36, 3) := by decide +kernel
theorem dX1_counted_74 : decode cX1_counted 74 = .ok (.ifCond .eq 7, 3) := by decide +kernel
theorem dX1_counted_77 : decode cX1_counted 77 = .ok (.iconst 1, 1) := by decide +kernel
theorem dX1_counted_78 : decode cX1_counted 78 = .ok (.goto 4, 3) := by decide +kernel
theorem dX1_counted_81 : decode cX1_counted 81 = .ok (.iconst 0, 1) := by decide +kernel
theorem dX1_counted_82 : decode cX1_counted 82 = .ok (.ireturn, 1) := by decide +kernel
set_option maxRecDepth 20000 in
theorem ggX1_count_X1_isIn : GoodIn wsX1_count wsX1_isIn := goodIn_r _ [5] (by decide +kernel) (by decide +kernel)
set_option maxRecDepth 20000 in
theorem gX1_count_X1_isIn : GoodIn wsX1_count (va_wsS RX1 26 yX1_isIn wsX1_isIn) := goodIn_app (goodIn_of _ (by decide +kernel)) ggX1_count_X1_isIn
set_option maxRecDepth 20000 in
theorem ggX1_count_X1_counted : GoodIn wsX1_count wsX1_counted := goodIn_r _ [9, 10, 11, 12, 13, 14, 4, 15, 16, 17, 18, 19, 20, 21, 22, 23, 24, 25, 26, 27, 28, 29, 30, 31, 32, 33, 34, 35, 36, 37, 38, 39, 40, 41, 42, 43, 44, 45, 46, 47, 48, 49, 50, 51, 52, 53, 54, 55, 56, 57, 58, 59, 60, 61, 62, 63, 64, 65, 66, 67, 68, 69, 70, 71, 72, 73, 74, 75, 76, 77, 78, 79, 80, 81, 82, 83, 84, 85, 86, 87, 88, 89, 90, 91, 92, 97, 98, 99, 100, 101, 102] (by decide +kernel) (by decide +kernel)
set_option maxRecDepth 20000 in
theorem gX1_count_X1_counted : GoodIn wsX1_count (wsV RX1 140 RX1 yX1_counted wsX1_counted) := goodIn_app (goodIn_of _ (by decide +kernel)) ggX1_count_X1_counted
set_option maxRecDepth 20000 in
theorem ggX1_count_X1_no : GoodIn wsX1_count wsX1_no := goodIn_r _ [96, 1, 97, 98, 99, 100, 101, 102] (by decide +kernel) (by decide +kernel)
set_option maxRecDepth 20000 in
theorem gX1_count_X1_no : GoodIn wsX1_count (wsV RX1 121 RX1 yX1_no wsX1_no) := goodIn_app (goodIn_of _ (by decide +kernel)) ggX1_count_X1_no
theorem dX1_count_0 : decode cX1_count 0 = .ok (.aload_n 0, 1) := by decide +kernel
theorem dX1_count_1 : decode cX1_count 1 = .ok (.iconst 0, 1) := by decide +kernel
theorem dX1_count_2 : decode cX1_count 2 = .ok (.putfield 19, 3) := by decide +kernel
theorem dX1_count_5 : decode cX1_count 5 = .ok (.iload_n 1, 1) := by decide +kernel
theorem dX1_count_6 : decode cX1_count 6 = .ok (.iconst 0, 1) := by decide +kernel
theorem dX1_count_7 : decode cX1_count 7 = .ok (.bipush 6, 2) := by decide +kernel
theorem dX1_count_9 : decode cX1_count 9 = .ok (.invokestatic 26, 3) := by decide +kernel
theorem dX1_count_12 : decode cX1_count 12 = .ok (.ifCond .eq 11, 3) := by decide +kernel
theorem dX1_count_15 : decode cX1_count 15 = .ok (.aload_n 0, 1) := by decide +kernel
theorem dX1_count_16 : decode cX1_count 16 = .ok (.iload_n 1, 1) := by decide +kernel
theorem dX1_count_17 : decode cX1_count 17 = .ok (.invokevirtual 140, 3) := by decide +kernel
theorem dX1_count_20 : decode cX1_count 20 = .ok (.goto 8, 3) := by decide +kernel
theorem dX1_count_23 : decode cX1_count 23 = .ok (.aload_n 0, 1) := by decide +kernel
theorem dX1_count_24 : decode cX1_count 24 = .ok (.iconst 1, 1) := by decide +kernel
theorem dX1_count_25 : decode cX1_count 25 = .ok (.invokevirtual 121, 3) := by decide +kernel
theorem dX1_count_28 : decode cX1_count 28 = .ok (.ireturn, 1) := by decide +kernel
set_option maxRecDepth 20000 in
theorem ggX1_pitch_X1_isIn : GoodIn wsX1_pitch wsX1_isIn := goodIn_r _ [5] (by decide +kernel) (by decide +kernel)
set_option maxRecDepth 20000 in
theorem gX1_pitch_X1_isIn : GoodIn wsX1_pitch (va_wsS RX1 26 yX1_isIn wsX1_isIn) := goodIn_app (goodIn_of _ (by decide +kernel)) ggX1_pitch_X1_isIn
set_option maxRecDepth 20000 in
theorem ggX1_pitch_X1_pitchOf : GoodIn wsX1_pitch wsX1_pitchOf := goodIn_r _ [9, 10, 11, 12, 17, 18, 19, 20, 21, 22] (by decide +kernel) (by decide +kernel)
set_option maxRecDepth 20000 in
theorem gX1_pitch_X1_pitchOf : GoodIn wsX1_pitch (wsV RX1 60 RX1 yX1_pitchOf wsX1_pitchOf) := goodIn_app (goodIn_of _ (by decide +kernel)) ggX1_pitch_X1_pitchOf
set_option maxRecDepth 20000 in
theorem ggX1_pitch_X1_no : GoodIn wsX1_pitch wsX1_no := goodIn_r _ [16, 1, 17, 18, 19, 20, 21, 22] (by decide +kernel) (by decide +kernel)
set_option maxRecDepth 20000 in
theorem gX1_pitch_X1_no : GoodIn wsX1_pitch (wsV RX1 121 RX1 yX1_no wsX1_no) := goodIn_app (goodIn_of _ (by decide +kernel)) ggX1_pitch_X1_no
theorem dX1_pitch_0 : decode cX1_pitch 0 = .ok (.aload_n 0, 1) := by decide +kernel
theorem dX1_pitch_1 : decode cX1_pitch 1 = .ok (.iconst 0, 1) := by decide +kernel
theorem dX1_pitch_2 : decode cX1_pitch 2 = .ok (.putfield 19, 3) := by decide +kernel
theorem dX1_pitch_5 : decode cX1_pitch 5 = .ok (.iload_n 1, 1) := by decide +kernel
theorem dX1_pitch_6 : decode cX1_pitch 6 = .ok (.iconst 0, 1) := by decide +kernel
theorem dX1_pitch_7 : decode cX1_pitch 7 = .ok (.bipush 27, 2) := by decide +kernel
theorem dX1_pitch_9 : decode cX1_pitch 9 = .ok (.invokestatic 26, 3) := by decide +kernel
theorem dX1_pitch_12 : decode cX1_pitch 12 = .ok (.ifCond .eq 11, 3) := by decide +kernel
theorem dX1_pitch_15 : decode cX1_pitch 15 = .ok (.aload_n 0, 1) := by decide +kernel
theorem dX1_pitch_16 : decode cX1_pitch 16 = .ok (.iload_n 1, 1) := by decide +kernel
theorem dX1_pitch_17 : decode cX1_pitch 17 = .ok (.invokevirtual 60, 3) := by decide +kernel
theorem dX1_pitch_20 : decode cX1_pitch 20 = .ok (.goto 8, 3) := by decide +kernel
theorem dX1_pitch_23 : decode cX1_pitch 23 = .ok (.aload_n 0, 1) := by decide +kernel
theorem dX1_pitch_24 : decode cX1_pitch 24 = .ok (.iconst 1, 1) := by decide +kernel
theorem dX1_pitch_25 : decode cX1_pitch 25 = .ok (.invokevirtual 121, 3) := by decide +kernel
theorem dX1_pitch_28 : decode cX1_pitch 28 = .ok (.ireturn, 1) := by decide +kernel
set_option maxRecDepth 20000 in
theorem ggX1_fits_X1_isChord : GoodIn wsX1_fits wsX1_isChord := goodIn_r _ [7, 8, 9, 10, 6, 11, 33, 34, 35, 36, 37, 38] (by decide +kernel) (by decide +kernel)
set_option maxRecDepth 20000 in
theorem gX1_fits_X1_isChord : GoodIn wsX1_fits (wsV RX1 124 RX1 yX1_isChord wsX1_isChord) := goodIn_app (goodIn_of _ (by decide +kernel)) ggX1_fits_X1_isChord
set_option maxRecDepth 20000 in
theorem ggX1_fits_X1_isIn : GoodIn wsX1_fits wsX1_isIn := goodIn_r _ [11] (by decide +kernel) (by decide +kernel)
set_option maxRecDepth 20000 in
theorem gX1_fits_X1_isIn : GoodIn wsX1_fits (va_wsS RX1 26 yX1_isIn wsX1_isIn) := goodIn_app (goodIn_of _ (by decide +kernel)) ggX1_fits_X1_isIn
set_option maxRecDepth 20000 in
theorem ggX1_fits_X1_no : GoodIn wsX1_fits wsX1_no := goodIn_r _ [15, 1, 33, 34, 35, 36, 37, 38] (by decide +kernel) (by decide +kernel)
set_option maxRecDepth 20000 in
theorem gX1_fits_X1_no : GoodIn wsX1_fits (wsV RX1 121 RX1 yX1_no wsX1_no) := goodIn_app (goodIn_of _ (by decide +kernel)) ggX1_fits_X1_no
set_option maxRecDepth 20000 in
theorem ggX1_fits_X1_isOf : GoodIn wsX1_fits wsX1_isOf := goodIn_r _ [18, 19, 20, 9, 10, 6, 11] (by decide +kernel) (by decide +kernel)
set_option maxRecDepth 20000 in
theorem gX1_fits_X1_isOf : GoodIn wsX1_fits (va_wsS RX1 117 yX1_isOf wsX1_isOf) := goodIn_app (goodIn_of _ (by decide +kernel)) ggX1_fits_X1_isOf
set_option maxRecDepth 20000 in
theorem ggX1_fits_X1_at : GoodIn wsX1_fits wsX1_at := goodIn_r _ [24, 25, 33, 34, 35, 36, 37, 38] (by decide +kernel) (by decide +kernel)
set_option maxRecDepth 20000 in
theorem gX1_fits_X1_at : GoodIn wsX1_fits (wsV RX1 46 RX1 yX1_at wsX1_at) := goodIn_app (goodIn_of _ (by decide +kernel)) ggX1_fits_X1_at
set_option maxRecDepth 20000 in
theorem ggX1_fits_X1_belongs : GoodIn wsX1_fits wsX1_belongs := goodIn_r _ [28, 29, 30, 31, 6, 32] (by decide +kernel) (by decide +kernel)
set_option maxRecDepth 20000 in
theorem gX1_fits_X1_belongs : GoodIn wsX1_fits (va_wsS RX1 100 yX1_belongs wsX1_belongs) := goodIn_app (goodIn_of _ (by decide +kernel)) ggX1_fits_X1_belongs
theorem dX1_fits_0 : decode cX1_fits 0 = .ok (.aload_n 0, 1) := by decide +kernel
theorem dX1_fits_1 : decode cX1_fits 1 = .ok (.iconst 0, 1) := by decide +kernel
theorem dX1_fits_2 : decode cX1_fits 2 = .ok (.putfield 19, 3) := by decide +kernel
theorem dX1_fits_5 : decode cX1_fits 5 = .ok (.aload_n 0, 1) := by decide +kernel
theorem dX1_fits_6 : decode cX1_fits 6 = .ok (.iload_n 1, 1) := by decide +kernel
theorem dX1_fits_7 : decode cX1_fits 7 = .ok (.invokevirtual 124, 3) := by decide +kernel
theorem dX1_fits_10 : decode cX1_fits 10 = .ok (.ifCond .eq 12, 3) := by decide +kernel
theorem dX1_fits_13 : decode cX1_fits 13 = .ok (.iload_n 2, 1) := by decide +kernel
theorem dX1_fits_14 : decode cX1_fits 14 = .ok (.iconst 1, 1) := by decide +kernel
theorem dX1_fits_15 : decode cX1_fits 15 = .ok (.iconst 3, 1) := by decide +kernel
theorem dX1_fits_16 : decode cX1_fits 16 = .ok (.invokestatic 26, 3) := by decide +kernel
theorem dX1_fits_19 : decode cX1_fits 19 = .ok (.ifCond .ne 17, 3) := by decide +kernel
theorem dX1_fits_22 : decode cX1_fits 22 = .ok (.aload_n 0, 1) := by decide +kernel
theorem dX1_fits_23 : decode cX1_fits 23 = .ok (.iconst 1, 1) := by decide +kernel
theorem dX1_fits_24 : decode cX1_fits 24 = .ok (.invokevirtual 121, 3) := by decide +kernel
theorem dX1_fits_27 : decode cX1_fits 27 = .ok (.ifCond .le 7, 3) := by decide +kernel
theorem dX1_fits_30 : decode cX1_fits 30 = .ok (.iconst 1, 1) := by decide +kernel
theorem dX1_fits_31 : decode cX1_fits 31 = .ok (.goto 4, 3) := by decide +kernel
theorem dX1_fits_34 : decode cX1_fits 34 = .ok (.iconst 0, 1) := by decide +kernel
theorem dX1_fits_35 : decode cX1_fits 35 = .ok (.ireturn, 1) := by decide +kernel
theorem dX1_fits_36 : decode cX1_fits 36 = .ok (.iload_n 3, 1) := by decide +kernel
theorem dX1_fits_37 : decode cX1_fits 37 = .ok (.iconst 0, 1) := by decide +kernel
theorem dX1_fits_38 : decode cX1_fits 38 = .ok (.bipush 27, 2) := by decide +kernel
theorem dX1_fits_40 : decode cX1_fits 40 = .ok (.invokestatic 26, 3) := by decide +kernel
theorem dX1_fits_43 : decode cX1_fits 43 = .ok (.ifCond .ne 17, 3) := by decide +kernel
theorem dX1_fits_46 : decode cX1_fits 46 = .ok (.aload_n 0, 1) := by decide +kernel
theorem dX1_fits_47 : decode cX1_fits 47 = .ok (.iconst 2, 1) := by decide +kernel
theorem dX1_fits_48 : decode cX1_fits 48 = .ok (.invokevirtual 121, 3) := by decide +kernel
theorem dX1_fits_51 : decode cX1_fits 51 = .ok (.ifCond .le 7, 3) := by decide +kernel
theorem dX1_fits_54 : decode cX1_fits 54 = .ok (.iconst 1, 1) := by decide +kernel
theorem dX1_fits_55 : decode cX1_fits 55 = .ok (.goto 4, 3) := by decide +kernel
theorem dX1_fits_58 : decode cX1_fits 58 = .ok (.iconst 0, 1) := by decide +kernel
theorem dX1_fits_59 : decode cX1_fits 59 = .ok (.ireturn, 1) := by decide +kernel
theorem dX1_fits_60 : decode cX1_fits 60 = .ok (.iload_n 2, 1) := by decide +kernel
theorem dX1_fits_61 : decode cX1_fits 61 = .ok (.iload_n 3, 1) := by decide +kernel
theorem dX1_fits_62 : decode cX1_fits 62 = .ok (.invokestatic 117, 3) := by decide +kernel
theorem dX1_fits_65 : decode cX1_fits 65 = .ok (.ifCond .eq 26, 3) := by decide +kernel
theorem dX1_fits_68 : decode cX1_fits 68 = .ok (.iload_n 3, 1) := by decide +kernel
theorem dX1_fits_69 : decode cX1_fits 69 = .ok (.aload_n 0, 1) := by decide +kernel
theorem dX1_fits_70 : decode cX1_fits 70 = .ok (.iload_n 1, 1) := by decide +kernel
theorem dX1_fits_71 : decode cX1_fits 71 = .ok (.iconst 0, 1) := by decide +kernel
theorem dX1_fits_72 : decode cX1_fits 72 = .ok (.invokevirtual 46, 3) := by decide +kernel
theorem dX1_fits_75 : decode cX1_fits 75 = .ok (.aload_n 0, 1) := by decide +kernel
theorem dX1_fits_76 : decode cX1_fits 76 = .ok (.getfield 13, 3) := by decide +kernel
theorem dX1_fits_79 : decode cX1_fits 79 = .ok (.iload_n 1, 1) := by decide +kernel
theorem dX1_fits_80 : decode cX1_fits 80 = .ok (.iaload, 1) := by decide +kernel
theorem dX1_fits_81 : decode cX1_fits 81 = .ok (.invokestatic 100, 3) := by decide +kernel
theorem dX1_fits_84 : decode cX1_fits 84 = .ok (.ifCond .eq 7, 3) := by decide +kernel
theorem dX1_fits_87 : decode cX1_fits 87 = .ok (.iconst 1, 1) := by decide +kernel
theorem dX1_fits_88 : decode cX1_fits 88 = .ok (.goto 4, 3) := by decide +kernel
theorem dX1_fits_91 : decode cX1_fits 91 = .ok (.iconst 0, 1) := by decide +kernel
theorem dX1_fits_92 : decode cX1_fits 92 = .ok (.ireturn, 1) := by decide +kernel
set_option maxRecDepth 20000 in
theorem ggX1_ways_X1_isChord : GoodIn wsX1_ways wsX1_isChord := goodIn_r _ [6, 7, 8, 9, 5, 10, 102, 103, 104, 105, 106, 107] (by decide +kernel) (by decide +kernel)
set_option maxRecDepth 20000 in
theorem gX1_ways_X1_isChord : GoodIn wsX1_ways (wsV RX1 124 RX1 yX1_isChord wsX1_isChord) := goodIn_app (goodIn_of _ (by decide +kernel)) ggX1_ways_X1_isChord
set_option maxRecDepth 20000 in
theorem ggX1_ways_X1_led : GoodIn wsX1_ways wsX1_led := goodIn_r _ [14, 15, 16, 17, 18, 19, 20, 21, 22, 7, 23, 24, 25, 5, 26, 27, 28, 29, 30, 31, 32, 33, 34, 35, 36, 37, 38, 39, 40, 41, 42, 43, 44, 45, 46, 47, 48, 49, 50, 51, 52, 53, 54, 55, 56, 57, 58, 59, 60, 61, 62, 63, 64, 65, 66, 67, 68, 69, 70, 71, 72, 73, 74, 75, 76, 77, 78, 79, 80, 81, 82, 83, 84, 85, 86, 87, 88, 89, 90, 91, 92, 93, 94, 95, 96, 97, 102, 103, 104, 105, 106, 107] (by decide +kernel) (by decide +kernel)
set_option maxRecDepth 20000 in
theorem gX1_ways_X1_led : GoodIn wsX1_ways (wsV RX1 113 RX1 yX1_led wsX1_led) := goodIn_app (goodIn_of _ (by decide +kernel)) ggX1_ways_X1_led
set_option maxRecDepth 20000 in
theorem ggX1_ways_X1_no : GoodIn wsX1_ways wsX1_no := goodIn_r _ [101, 1, 102, 103, 104, 105, 106, 107] (by decide +kernel) (by decide +kernel)
set_option maxRecDepth 20000 in
theorem gX1_ways_X1_no : GoodIn wsX1_ways (wsV RX1 121 RX1 yX1_no wsX1_no) := goodIn_app (goodIn_of _ (by decide +kernel)) ggX1_ways_X1_no
theorem dX1_ways_0 : decode cX1_ways 0 = .ok (.aload_n 0, 1) := by decide +kernel
theorem dX1_ways_1 : decode cX1_ways 1 = .ok (.iconst 0, 1) := by decide +kernel
theorem dX1_ways_2 : decode cX1_ways 2 = .ok (.putfield 19, 3) := by decide +kernel
theorem dX1_ways_5 : decode cX1_ways 5 = .ok (.aload_n 0, 1) := by decide +kernel
theorem dX1_ways_6 : decode cX1_ways 6 = .ok (.iload_n 1, 1) := by decide +kernel
theorem dX1_ways_7 : decode cX1_ways 7 = .ok (.invokevirtual 124, 3) := by decide +kernel
theorem dX1_ways_10 : decode cX1_ways 10 = .ok (.ifCond .eq 13, 3) := by decide +kernel
theorem dX1_ways_13 : decode cX1_ways 13 = .ok (.aload_n 0, 1) := by decide +kernel
theorem dX1_ways_14 : decode cX1_ways 14 = .ok (.iload_n 1, 1) := by decide +kernel
theorem dX1_ways_15 : decode cX1_ways 15 = .ok (.invokevirtual 113, 3) := by decide +kernel
theorem dX1_ways_18 : decode cX1_ways 18 = .ok (.iconst 2, 1) := by decide +kernel
theorem dX1_ways_19 : decode cX1_ways 19 = .ok (.iaload, 1) := by decide +kernel
theorem dX1_ways_20 : decode cX1_ways 20 = .ok (.goto 8, 3) := by decide +kernel
theorem dX1_ways_23 : decode cX1_ways 23 = .ok (.aload_n 0, 1) := by decide +kernel
theorem dX1_ways_24 : decode cX1_ways 24 = .ok (.iconst 1, 1) := by decide +kernel
theorem dX1_ways_25 : decode cX1_ways 25 = .ok (.invokevirtual 121, 3) := by decide +kernel
theorem dX1_ways_28 : decode cX1_ways 28 = .ok (.ireturn, 1) := by decide +kernel
set_option maxRecDepth 20000 in
theorem ggX1_would_X1_isChord : GoodIn wsX1_would wsX1_isChord := goodIn_r _ [7, 8, 9, 10, 6, 11, 98, 99, 100, 101, 102, 103] (by decide +kernel) (by decide +kernel)
set_option maxRecDepth 20000 in
theorem gX1_would_X1_isChord : GoodIn wsX1_would (wsV RX1 124 RX1 yX1_isChord wsX1_isChord) := goodIn_app (goodIn_of _ (by decide +kernel)) ggX1_would_X1_isChord
set_option maxRecDepth 20000 in
theorem ggX1_would_X1_isIn : GoodIn wsX1_would wsX1_isIn := goodIn_r _ [11] (by decide +kernel) (by decide +kernel)
set_option maxRecDepth 20000 in
theorem gX1_would_X1_isIn : GoodIn wsX1_would (va_wsS RX1 26 yX1_isIn wsX1_isIn) := goodIn_app (goodIn_of _ (by decide +kernel)) ggX1_would_X1_isIn
set_option maxRecDepth 20000 in
theorem ggX1_would_X1_no : GoodIn wsX1_would wsX1_no := goodIn_r _ [15, 1, 98, 99, 100, 101, 102, 103] (by decide +kernel) (by decide +kernel)
set_option maxRecDepth 20000 in
theorem gX1_would_X1_no : GoodIn wsX1_would (wsV RX1 121 RX1 yX1_no wsX1_no) := goodIn_app (goodIn_of _ (by decide +kernel)) ggX1_would_X1_no
set_option maxRecDepth 20000 in
theorem ggX1_would_X1_isOf : GoodIn wsX1_would wsX1_isOf := goodIn_r _ [18, 19, 20, 9, 10, 6, 11] (by decide +kernel) (by decide +kernel)
set_option maxRecDepth 20000 in
theorem gX1_would_X1_isOf : GoodIn wsX1_would (va_wsS RX1 117 yX1_isOf wsX1_isOf) := goodIn_app (goodIn_of _ (by decide +kernel)) ggX1_would_X1_isOf
set_option maxRecDepth 20000 in
theorem ggX1_would_X1_at : GoodIn wsX1_would wsX1_at := goodIn_r _ [24, 2, 98, 99, 100, 101, 102, 103] (by decide +kernel) (by decide +kernel)
set_option maxRecDepth 20000 in
theorem gX1_would_X1_at : GoodIn wsX1_would (wsV RX1 46 RX1 yX1_at wsX1_at) := goodIn_app (goodIn_of _ (by decide +kernel)) ggX1_would_X1_at
set_option maxRecDepth 20000 in
theorem ggX1_would_X1_all : GoodIn wsX1_would wsX1_all := goodIn_r _ [28, 8, 29, 30, 31, 6, 32, 33, 21, 22, 23, 24, 2, 34, 35, 36, 37, 38, 39, 40, 41, 42, 43, 44, 45, 46, 47, 48, 49, 50, 51, 52, 53, 54, 55, 56, 57, 58, 59, 60, 61, 62, 63, 64, 65, 66, 67, 68, 69, 70, 71, 72, 73, 74, 75, 76, 77, 78, 79, 80, 81, 82, 83, 84, 85, 86, 87, 88, 89, 90, 91, 92, 93, 94, 95, 96, 97, 98, 99, 100, 101, 102, 103] (by decide +kernel) (by decide +kernel)
set_option maxRecDepth 20000 in
theorem gX1_would_X1_all : GoodIn wsX1_would (wsV RX1 133 RX1 yX1_all wsX1_all) := goodIn_app (goodIn_of _ (by decide +kernel)) ggX1_would_X1_all
theorem dX1_would_0 : decode cX1_would 0 = .ok (.aload_n 0, 1) := by decide +kernel
theorem dX1_would_1 : decode cX1_would 1 = .ok (.iconst 0, 1) := by decide +kernel
theorem dX1_would_2 : decode cX1_would 2 = .ok (.putfield 19, 3) := by decide +kernel
theorem dX1_would_5 : decode cX1_would 5 = .ok (.aload_n 0, 1) := by decide +kernel
theorem dX1_would_6 : decode cX1_would 6 = .ok (.iload_n 1, 1) := by decide +kernel
theorem dX1_would_7 : decode cX1_would 7 = .ok (.invokevirtual 124, 3) := by decide +kernel
theorem dX1_would_10 : decode cX1_would 10 = .ok (.ifCond .eq 12, 3) := by decide +kernel
theorem dX1_would_13 : decode cX1_would 13 = .ok (.iload_n 2, 1) := by decide +kernel
theorem dX1_would_14 : decode cX1_would 14 = .ok (.iconst 1, 1) := by decide +kernel
theorem dX1_would_15 : decode cX1_would 15 = .ok (.iconst 3, 1) := by decide +kernel
theorem dX1_would_16 : decode cX1_would 16 = .ok (.invokestatic 26, 3) := by decide +kernel
theorem dX1_would_19 : decode cX1_would 19 = .ok (.ifCond .ne 9, 3) := by decide +kernel
theorem dX1_would_22 : decode cX1_would 22 = .ok (.aload_n 0, 1) := by decide +kernel
theorem dX1_would_23 : decode cX1_would 23 = .ok (.iconst 1, 1) := by decide +kernel
theorem dX1_would_24 : decode cX1_would 24 = .ok (.invokevirtual 121, 3) := by decide +kernel
theorem dX1_would_27 : decode cX1_would 27 = .ok (.ireturn, 1) := by decide +kernel
theorem dX1_would_28 : decode cX1_would 28 = .ok (.iload_n 3, 1) := by decide +kernel
theorem dX1_would_29 : decode cX1_would 29 = .ok (.iconst (-1), 1) := by decide +kernel
theorem dX1_would_30 : decode cX1_would 30 = .ok (.if_icmp .eq 17, 3) := by decide +kernel
theorem dX1_would_33 : decode cX1_would 33 = .ok (.iload_n 2, 1) := by decide +kernel
theorem dX1_would_34 : decode cX1_would 34 = .ok (.iload_n 3, 1) := by decide +kernel
theorem dX1_would_35 : decode cX1_would 35 = .ok (.invokestatic 117, 3) := by decide +kernel
theorem dX1_would_38 : decode cX1_would 38 = .ok (.ifCond .ne 9, 3) := by decide +kernel
theorem dX1_would_41 : decode cX1_would 41 = .ok (.aload_n 0, 1) := by decide +kernel
theorem dX1_would_42 : decode cX1_would 42 = .ok (.iconst 2, 1) := by decide +kernel
theorem dX1_would_43 : decode cX1_would 43 = .ok (.invokevirtual 121, 3) := by decide +kernel
theorem dX1_would_46 : decode cX1_would 46 = .ok (.ireturn, 1) := by decide +kernel
theorem dX1_would_47 : decode cX1_would 47 = .ok (.aload_n 0, 1) := by decide +kernel
theorem dX1_would_48 : decode cX1_would 48 = .ok (.iload_n 1, 1) := by decide +kernel
theorem dX1_would_49 : decode cX1_would 49 = .ok (.iload_n 2, 1) := by decide +kernel
theorem dX1_would_50 : decode cX1_would 50 = .ok (.invokevirtual 46, 3) := by decide +kernel
theorem dX1_would_53 : decode cX1_would 53 = .ok (.istore 4, 2) := by decide +kernel
theorem dX1_would_55 : decode cX1_would 55 = .ok (.aload_n 0, 1) := by decide +kernel
theorem dX1_would_56 : decode cX1_would 56 = .ok (.getfield 9, 3) := by decide +kernel
theorem dX1_would_59 : decode cX1_would 59 = .ok (.iconst 4, 1) := by decide +kernel
theorem dX1_would_60 : decode cX1_would 60 = .ok (.iload_n 1, 1) := by decide +kernel
theorem dX1_would_61 : decode cX1_would 61 = .ok (.imul, 1) := by decide +kernel
theorem dX1_would_62 : decode cX1_would 62 = .ok (.iload_n 2, 1) := by decide +kernel
theorem dX1_would_63 : decode cX1_would 63 = .ok (.iadd, 1) := by decide +kernel
theorem dX1_would_64 : decode cX1_would 64 = .ok (.iload_n 3, 1) := by decide +kernel
theorem dX1_would_65 : decode cX1_would 65 = .ok (.iastore, 1) := by decide +kernel
theorem dX1_would_66 : decode cX1_would 66 = .ok (.aload_n 0, 1) := by decide +kernel
theorem dX1_would_67 : decode cX1_would 67 = .ok (.iconst 5, 1) := by decide +kernel
theorem dX1_would_68 : decode cX1_would 68 = .ok (.invokevirtual 133, 3) := by decide +kernel
theorem dX1_would_71 : decode cX1_would 71 = .ok (.istore 5, 2) := by decide +kernel
theorem dX1_would_73 : decode cX1_would 73 = .ok (.aload_n 0, 1) := by decide +kernel
theorem dX1_would_74 : decode cX1_would 74 = .ok (.getfield 9, 3) := by decide +kernel
theorem dX1_would_77 : decode cX1_would 77 = .ok (.iconst 4, 1) := by decide +kernel
theorem dX1_would_78 : decode cX1_would 78 = .ok (.iload_n 1, 1) := by decide +kernel
theorem dX1_would_79 : decode cX1_would 79 = .ok (.imul, 1) := by decide +kernel
theorem dX1_would_80 : decode cX1_would 80 = .ok (.iload_n 2, 1) := by decide +kernel
theorem dX1_would_81 : decode cX1_would 81 = .ok (.iadd, 1) := by decide +kernel
theorem dX1_would_82 : decode cX1_would 82 = .ok (.iload 4, 2) := by decide +kernel
theorem dX1_would_84 : decode cX1_would 84 = .ok (.iastore, 1) := by decide +kernel
theorem dX1_would_85 : decode cX1_would 85 = .ok (.iload 5, 2) := by decide +kernel
theorem dX1_would_87 : decode cX1_would 87 = .ok (.ireturn, 1) := by decide +kernel
set_option maxRecDepth 20000 in
theorem ggX1_best_X1_isChord : GoodIn wsX1_best wsX1_isChord := goodIn_r _ [6, 7, 8, 9, 5, 10, 102, 103, 104, 105, 106, 107] (by decide +kernel) (by decide +kernel)
set_option maxRecDepth 20000 in
theorem gX1_best_X1_isChord : GoodIn wsX1_best (wsV RX1 124 RX1 yX1_isChord wsX1_isChord) := goodIn_app (goodIn_of _ (by decide +kernel)) ggX1_best_X1_isChord
set_option maxRecDepth 20000 in
theorem ggX1_best_X1_led : GoodIn wsX1_best wsX1_led := goodIn_r _ [14, 15, 16, 17, 18, 19, 20, 21, 22, 7, 23, 24, 25, 5, 26, 27, 28, 29, 30, 31, 32, 33, 34, 35, 36, 37, 38, 39, 40, 41, 42, 43, 44, 45, 46, 47, 48, 49, 50, 51, 52, 53, 54, 55, 56, 57, 58, 59, 60, 61, 62, 63, 64, 65, 66, 67, 68, 69, 70, 71, 72, 73, 74, 75, 76, 77, 78, 79, 80, 81, 82, 83, 84, 85, 86, 87, 88, 89, 90, 91, 92, 93, 94, 95, 96, 97, 102, 103, 104, 105, 106, 107] (by decide +kernel) (by decide +kernel)
set_option maxRecDepth 20000 in
theorem gX1_best_X1_led : GoodIn wsX1_best (wsV RX1 113 RX1 yX1_led wsX1_led) := goodIn_app (goodIn_of _ (by decide +kernel)) ggX1_best_X1_led
set_option maxRecDepth 20000 in
theorem ggX1_best_X1_no : GoodIn wsX1_best wsX1_no := goodIn_r _ [101, 1, 102, 103, 104, 105, 106, 107] (by decide +kernel) (by decide +kernel)
set_option maxRecDepth 20000 in
theorem gX1_best_X1_no : GoodIn wsX1_best (wsV RX1 121 RX1 yX1_no wsX1_no) := goodIn_app (goodIn_of _ (by decide +kernel)) ggX1_best_X1_no
theorem dX1_best_0 : decode cX1_best 0 = .ok (.aload_n 0, 1) := by decide +kernel
theorem dX1_best_1 : decode cX1_best 1 = .ok (.iconst 0, 1) := by decide +kernel
theorem dX1_best_2 : decode cX1_best 2 = .ok (.putfield 19, 3) := by decide +kernel
theorem dX1_best_5 : decode cX1_best 5 = .ok (.aload_n 0, 1) := by decide +kernel
theorem dX1_best_6 : decode cX1_best 6 = .ok (.iload_n 1, 1) := by decide +kernel
theorem dX1_best_7 : decode cX1_best 7 = .ok (.invokevirtual 124, 3) := by decide +kernel
theorem dX1_best_10 : decode cX1_best 10 = .ok (.ifCond .eq 13, 3) := by decide +kernel
theorem dX1_best_13 : decode cX1_best 13 = .ok (.aload_n 0, 1) := by decide +kernel
theorem dX1_best_14 : decode cX1_best 14 = .ok (.iload_n 1, 1) := by decide +kernel
theorem dX1_best_15 : decode cX1_best 15 = .ok (.invokevirtual 113, 3) := by decide +kernel
theorem dX1_best_18 : decode cX1_best 18 = .ok (.iconst 0, 1) := by decide +kernel
theorem dX1_best_19 : decode cX1_best 19 = .ok (.iaload, 1) := by decide +kernel
theorem dX1_best_20 : decode cX1_best 20 = .ok (.goto 8, 3) := by decide +kernel
theorem dX1_best_23 : decode cX1_best 23 = .ok (.aload_n 0, 1) := by decide +kernel
theorem dX1_best_24 : decode cX1_best 24 = .ok (.iconst 1, 1) := by decide +kernel
theorem dX1_best_25 : decode cX1_best 25 = .ok (.invokevirtual 121, 3) := by decide +kernel
theorem dX1_best_28 : decode cX1_best 28 = .ok (.ireturn, 1) := by decide +kernel
set_option maxRecDepth 20000 in
theorem ggX1_advise_X1_isChord : GoodIn wsX1_advise wsX1_isChord := goodIn_r _ [8, 9, 10, 11, 7, 12, 102, 103, 104, 105, 106, 107] (by decide +kernel) (by decide +kernel)
set_option maxRecDepth 20000 in
theorem gX1_advise_X1_isChord : GoodIn wsX1_advise (wsV RX1 124 RX1 yX1_isChord wsX1_isChord) := goodIn_app (goodIn_of _ (by decide +kernel)) ggX1_advise_X1_isChord
set_option maxRecDepth 20000 in
theorem ggX1_advise_X1_no : GoodIn wsX1_advise wsX1_no := goodIn_r _ [16, 1, 102, 103, 104, 105, 106, 107] (by decide +kernel) (by decide +kernel)
set_option maxRecDepth 20000 in
theorem gX1_advise_X1_no : GoodIn wsX1_advise (wsV RX1 121 RX1 yX1_no wsX1_no) := goodIn_app (goodIn_of _ (by decide +kernel)) ggX1_advise_X1_no
set_option maxRecDepth 20000 in
theorem ggX1_advise_X1_led : GoodIn wsX1_advise wsX1_led := goodIn_r _ [20, 21, 22, 23, 2, 24, 25, 26, 27, 9, 28, 29, 30, 7, 31, 32, 33, 34, 35, 3, 36, 37, 38, 39, 40, 41, 42, 43, 44, 45, 46, 47, 48, 49, 50, 51, 52, 53, 54, 55, 56, 57, 58, 59, 60, 61, 62, 63, 64, 65, 66, 67, 68, 69, 70, 71, 72, 73, 74, 75, 76, 77, 78, 79, 80, 81, 82, 83, 84, 85, 86, 87, 88, 89, 90, 91, 92, 93, 94, 95, 96, 97, 98, 99, 100, 101, 102, 103, 104, 105, 106, 107] (by decide +kernel) (by decide +kernel)
set_option maxRecDepth 20000 in
theorem gX1_advise_X1_led : GoodIn wsX1_advise (wsV RX1 113 RX1 yX1_led wsX1_led) := goodIn_app (goodIn_of _ (by decide +kernel)) ggX1_advise_X1_led
theorem dX1_advise_0 : decode cX1_advise 0 = .ok (.aload_n 0, 1) := by decide +kernel
theorem dX1_advise_1 : decode cX1_advise 1 = .ok (.iconst 0, 1) := by decide +kernel
theorem dX1_advise_2 : decode cX1_advise 2 = .ok (.putfield 19, 3) := by decide +kernel
theorem dX1_advise_5 : decode cX1_advise 5 = .ok (.aload_n 0, 1) := by decide +kernel
theorem dX1_advise_6 : decode cX1_advise 6 = .ok (.iload_n 1, 1) := by decide +kernel
theorem dX1_advise_7 : decode cX1_advise 7 = .ok (.invokevirtual 124, 3) := by decide +kernel
theorem dX1_advise_10 : decode cX1_advise 10 = .ok (.ifCond .ne 9, 3) := by decide +kernel
theorem dX1_advise_13 : decode cX1_advise 13 = .ok (.aload_n 0, 1) := by decide +kernel
theorem dX1_advise_14 : decode cX1_advise 14 = .ok (.iconst 1, 1) := by decide +kernel
theorem dX1_advise_15 : decode cX1_advise 15 = .ok (.invokevirtual 121, 3) := by decide +kernel
theorem dX1_advise_18 : decode cX1_advise 18 = .ok (.ireturn, 1) := by decide +kernel
theorem dX1_advise_19 : decode cX1_advise 19 = .ok (.aload_n 0, 1) := by decide +kernel
theorem dX1_advise_20 : decode cX1_advise 20 = .ok (.getfield 13, 3) := by decide +kernel
theorem dX1_advise_23 : decode cX1_advise 23 = .ok (.iload_n 1, 1) := by decide +kernel
theorem dX1_advise_24 : decode cX1_advise 24 = .ok (.iaload, 1) := by decide +kernel
theorem dX1_advise_25 : decode cX1_advise 25 = .ok (.istore_n 2, 1) := by decide +kernel
theorem dX1_advise_26 : decode cX1_advise 26 = .ok (.iconst (-1), 1) := by decide +kernel
theorem dX1_advise_27 : decode cX1_advise 27 = .ok (.istore_n 3, 1) := by decide +kernel
theorem dX1_advise_28 : decode cX1_advise 28 = .ok (.iconst 0, 1) := by decide +kernel
theorem dX1_advise_29 : decode cX1_advise 29 = .ok (.istore 4, 2) := by decide +kernel
theorem dX1_advise_31 : decode cX1_advise 31 = .ok (.iconst 0, 1) := by decide +kernel
theorem dX1_advise_32 : decode cX1_advise 32 = .ok (.istore 5, 2) := by decide +kernel
theorem dX1_advise_34 : decode cX1_advise 34 = .ok (.iload 5, 2) := by decide +kernel
theorem dX1_advise_36 : decode cX1_advise 36 = .ok (.getstatic 50, 3) := by decide +kernel
theorem dX1_advise_39 : decode cX1_advise 39 = .ok (.arraylength, 1) := by decide +kernel
theorem dX1_advise_40 : decode cX1_advise 40 = .ok (.if_icmp .ge 58, 3) := by decide +kernel
theorem dX1_advise_43 : decode cX1_advise 43 = .ok (.aload_n 0, 1) := by decide +kernel
theorem dX1_advise_44 : decode cX1_advise 44 = .ok (.getfield 13, 3) := by decide +kernel
theorem dX1_advise_47 : decode cX1_advise 47 = .ok (.iload_n 1, 1) := by decide +kernel
theorem dX1_advise_48 : decode cX1_advise 48 = .ok (.iload 5, 2) := by decide +kernel
theorem dX1_advise_50 : decode cX1_advise 50 = .ok (.iastore, 1) := by decide +kernel
theorem dX1_advise_51 : decode cX1_advise 51 = .ok (.aload_n 0, 1) := by decide +kernel
theorem dX1_advise_52 : decode cX1_advise 52 = .ok (.iload_n 1, 1) := by decide +kernel
theorem dX1_advise_53 : decode cX1_advise 53 = .ok (.invokevirtual 113, 3) := by decide +kernel
theorem dX1_advise_56 : decode cX1_advise 56 = .ok (.astore 6, 2) := by decide +kernel
theorem dX1_advise_58 : decode cX1_advise 58 = .ok (.aload 6, 2) := by decide +kernel
theorem dX1_advise_60 : decode cX1_advise 60 = .ok (.iconst 0, 1) := by decide +kernel
theorem dX1_advise_61 : decode cX1_advise 61 = .ok (.iaload, 1) := by decide +kernel
theorem dX1_advise_62 : decode cX1_advise 62 = .ok (.iconst (-1), 1) := by decide +kernel
theorem dX1_advise_63 : decode cX1_advise 63 = .ok (.if_icmp .eq 29, 3) := by decide +kernel
theorem dX1_advise_66 : decode cX1_advise 66 = .ok (.iload_n 3, 1) := by decide +kernel
theorem dX1_advise_67 : decode cX1_advise 67 = .ok (.iconst (-1), 1) := by decide +kernel
theorem dX1_advise_68 : decode cX1_advise 68 = .ok (.if_icmp .eq 15, 3) := by decide +kernel
theorem dX1_advise_71 : decode cX1_advise 71 = .ok (.aload 6, 2) := by decide +kernel
theorem dX1_advise_73 : decode cX1_advise 73 = .ok (.iconst 1, 1) := by decide +kernel
theorem dX1_advise_74 : decode cX1_advise 74 = .ok (.iaload, 1) := by decide +kernel
theorem dX1_advise_75 : decode cX1_advise 75 = .ok (.iload 4, 2) := by decide +kernel
theorem dX1_advise_77 : decode cX1_advise 77 = .ok (.if_icmp .lt 6, 3) := by decide +kernel
theorem dX1_advise_80 : decode cX1_advise 80 = .ok (.goto 12, 3) := by decide +kernel
theorem dX1_advise_83 : decode cX1_advise 83 = .ok (.iload 5, 2) := by decide +kernel
theorem dX1_advise_85 : decode cX1_advise 85 = .ok (.istore_n 3, 1) := by decide +kernel
theorem dX1_advise_86 : decode cX1_advise 86 = .ok (.aload 6, 2) := by decide +kernel
theorem dX1_advise_88 : decode cX1_advise 88 = .ok (.iconst 1, 1) := by decide +kernel
theorem dX1_advise_89 : decode cX1_advise 89 = .ok (.iaload, 1) := by decide +kernel
theorem dX1_advise_90 : decode cX1_advise 90 = .ok (.istore 4, 2) := by decide +kernel
theorem dX1_advise_92 : decode cX1_advise 92 = .ok (.iinc 5 1, 3) := by decide +kernel
theorem dX1_advise_95 : decode cX1_advise 95 = .ok (.goto (-61), 3) := by decide +kernel
theorem dX1_advise_98 : decode cX1_advise 98 = .ok (.aload_n 0, 1) := by decide +kernel
theorem dX1_advise_99 : decode cX1_advise 99 = .ok (.getfield 13, 3) := by decide +kernel
theorem dX1_advise_102 : decode cX1_advise 102 = .ok (.iload_n 1, 1) := by decide +kernel
theorem dX1_advise_103 : decode cX1_advise 103 = .ok (.iload_n 2, 1) := by decide +kernel
theorem dX1_advise_104 : decode cX1_advise 104 = .ok (.iastore, 1) := by decide +kernel
theorem dX1_advise_105 : decode cX1_advise 105 = .ok (.iload_n 3, 1) := by decide +kernel
theorem dX1_advise_106 : decode cX1_advise 106 = .ok (.ireturn, 1) := by decide +kernel
set_option maxRecDepth 20000 in
theorem ggX1_mean_X1_all : GoodIn wsX1_mean wsX1_all := goodIn_r _ [6, 7, 8, 9, 10, 5, 11, 12, 13, 14, 15, 16, 17, 18, 19, 20, 21, 22, 23, 24, 25, 26, 27, 28, 29, 30, 31, 32, 33, 34, 35, 36, 37, 38, 39, 40, 41, 42, 43, 44, 45, 46, 47, 48, 49, 50, 51, 52, 53, 54, 55, 56, 57, 58, 59, 60, 61, 62, 63, 64, 65, 66, 67, 68, 69, 70, 71, 72, 73, 74, 75, 76, 77, 78, 79, 80, 81, 82, 83, 84, 85, 86, 87] (by decide +kernel) (by decide +kernel)
set_option maxRecDepth 20000 in
theorem gX1_mean_X1_all : GoodIn wsX1_mean (wsV RX1 133 RX1 yX1_all wsX1_all) := goodIn_app (goodIn_of _ (by decide +kernel)) ggX1_mean_X1_all
theorem dX1_mean_0 : decode cX1_mean 0 = .ok (.aload_n 0, 1) := by decide +kernel
theorem dX1_mean_1 : decode cX1_mean 1 = .ok (.iconst 0, 1) := by decide +kernel
theorem dX1_mean_2 : decode cX1_mean 2 = .ok (.putfield 19, 3) := by decide +kernel
theorem dX1_mean_5 : decode cX1_mean 5 = .ok (.aload_n 0, 1) := by decide +kernel
theorem dX1_mean_6 : decode cX1_mean 6 = .ok (.iconst 2, 1) := by decide +kernel
theorem dX1_mean_7 : decode cX1_mean 7 = .ok (.invokevirtual 133, 3) := by decide +kernel
theorem dX1_mean_10 : decode cX1_mean 10 = .ok (.ifCond .ne 7, 3) := by decide +kernel
theorem dX1_mean_13 : decode cX1_mean 13 = .ok (.dconst 0, 1) := by decide +kernel
theorem dX1_mean_14 : decode cX1_mean 14 = .ok (.goto 16, 3) := by decide +kernel
theorem dX1_mean_17 : decode cX1_mean 17 = .ok (.aload_n 0, 1) := by decide +kernel
theorem dX1_mean_18 : decode cX1_mean 18 = .ok (.iconst 5, 1) := by decide +kernel
theorem dX1_mean_19 : decode cX1_mean 19 = .ok (.invokevirtual 133, 3) := by decide +kernel
theorem dX1_mean_22 : decode cX1_mean 22 = .ok (.i2d, 1) := by decide +kernel
theorem dX1_mean_23 : decode cX1_mean 23 = .ok (.aload_n 0, 1) := by decide +kernel
theorem dX1_mean_24 : decode cX1_mean 24 = .ok (.iconst 2, 1) := by decide +kernel
theorem dX1_mean_25 : decode cX1_mean 25 = .ok (.invokevirtual 133, 3) := by decide +kernel
theorem dX1_mean_28 : decode cX1_mean 28 = .ok (.i2d, 1) := by decide +kernel
theorem dX1_mean_29 : decode cX1_mean 29 = .ok (.ddiv, 1) := by decide +kernel
theorem dX1_mean_30 : decode cX1_mean 30 = .ok (.dreturn, 1) := by decide +kernel
set_option maxRecDepth 20000 in
theorem ggX1_digest_X1_counted : GoodIn wsX1_digest wsX1_counted := goodIn_r _ [10, 5, 11, 12, 13, 14, 9, 15, 16, 17, 18, 19, 20, 21, 22, 23, 24, 25, 26, 27, 28, 29, 30, 31, 32, 33, 34, 35, 36, 37, 38, 39, 40, 41, 42, 43, 44, 45, 46, 47, 48, 49, 50, 51, 52, 53, 54, 55, 56, 57, 4, 58, 59, 60, 61, 62, 63, 64, 65, 66, 67, 68, 69, 70, 71, 72, 73, 74, 75, 76, 77, 78, 79, 80, 81, 82, 83, 84, 85, 86, 87, 88, 89, 90, 91, 109, 110, 111, 112, 113, 114] (by decide +kernel) (by decide +kernel)
set_option maxRecDepth 20000 in
theorem gX1_digest_X1_counted : GoodIn wsX1_digest (wsV RX1 140 RX1 yX1_counted wsX1_counted) := goodIn_app (goodIn_of _ (by decide +kernel)) ggX1_digest_X1_counted
set_option maxRecDepth 20000 in
theorem ggX1_digest_X1_at : GoodIn wsX1_digest wsX1_at := goodIn_r _ [24, 25, 109, 110, 111, 112, 113, 114] (by decide +kernel) (by decide +kernel)
set_option maxRecDepth 20000 in
theorem gX1_digest_X1_at : GoodIn wsX1_digest (wsV RX1 46 RX1 yX1_at wsX1_at) := goodIn_app (goodIn_of _ (by decide +kernel)) ggX1_digest_X1_at
set_option maxRecDepth 20000 in
theorem ggX1_digest_X1_chordTold : GoodIn wsX1_digest wsX1_chordTold := goodIn_r _ [19, 20, 21, 22, 23, 9, 24, 25, 26, 27, 28, 29, 30, 31, 32, 33, 34, 35, 36, 37, 38, 39, 40, 41, 42, 43, 44, 45, 46, 47, 48, 49, 50, 51, 52, 53, 54, 55, 56, 57, 4, 58, 59, 60, 61, 62, 63, 64, 65, 66, 67, 68, 69, 70, 71, 72, 73, 11, 74, 75, 76, 77, 78, 79, 80, 81, 82, 83, 84, 85, 86, 87, 109, 110, 111, 112, 113, 114] (by decide +kernel) (by decide +kernel)
set_option maxRecDepth 20000 in
theorem gX1_digest_X1_chordTold : GoodIn wsX1_digest (wsV RX1 130 RX1 yX1_chordTold wsX1_chordTold) := goodIn_app (goodIn_of _ (by decide +kernel)) ggX1_digest_X1_chordTold
set_option maxRecDepth 20000 in
theorem ggX1_digest_X1_faultsOf : GoodIn wsX1_digest wsX1_faultsOf := goodIn_r _ [61, 46, 47, 48, 9, 49, 26, 27, 28, 29, 21, 22, 23, 24, 25, 62, 63, 64, 65, 50, 51, 52, 53, 66, 67, 68, 69, 70, 71, 72, 73, 11, 74, 75, 76, 77, 78, 79, 80, 81, 82, 83, 42, 43, 44, 45, 84, 85, 86, 87, 20, 35, 36, 37, 109, 110, 111, 112, 113, 114] (by decide +kernel) (by decide +kernel)
set_option maxRecDepth 20000 in
theorem gX1_digest_X1_faultsOf : GoodIn wsX1_digest (wsV RX1 97 RX1 yX1_faultsOf wsX1_faultsOf) := goodIn_app (goodIn_of _ (by decide +kernel)) ggX1_digest_X1_faultsOf
set_option maxRecDepth 20000 in
theorem ggX1_digest_X1_led : GoodIn wsX1_digest wsX1_led := goodIn_r _ [95, 96, 97, 98, 20, 99, 100, 44, 101, 5, 21, 22, 23, 9, 24, 25, 102, 103, 104, 34, 35, 36, 37, 105, 106, 107, 108, 30, 31, 32, 33, 26, 27, 28, 29, 54, 55, 56, 57, 4, 38, 39, 40, 41, 42, 43, 45, 46, 47, 48, 49, 50, 51, 52, 53, 58, 59, 60, 61, 62, 63, 64, 65, 66, 67, 68, 69, 70, 71, 72, 73, 11, 74, 75, 76, 77, 78, 79, 80, 81, 82, 83, 84, 85, 86, 87, 109, 110, 111, 112, 113, 114] (by decide +kernel) (by decide +kernel)
set_option maxRecDepth 20000 in
theorem gX1_digest_X1_led : GoodIn wsX1_digest (wsV RX1 113 RX1 yX1_led wsX1_led) := goodIn_app (goodIn_of _ (by decide +kernel)) ggX1_digest_X1_led
theorem dX1_digest_0 : decode cX1_digest 0 = .ok (.aload_n 0, 1) := by decide +kernel
theorem dX1_digest_1 : decode cX1_digest 1 = .ok (.iconst 0, 1) := by decide +kernel
theorem dX1_digest_2 : decode cX1_digest 2 = .ok (.putfield 19, 3) := by decide +kernel
theorem dX1_digest_5 : decode cX1_digest 5 = .ok (.ldc2_w 143, 3) := by decide +kernel
theorem dX1_digest_8 : decode cX1_digest 8 = .ok (.lstore_n 1, 1) := by decide +kernel
theorem dX1_digest_9 : decode cX1_digest 9 = .ok (.iconst 0, 1) := by decide +kernel
theorem dX1_digest_10 : decode cX1_digest 10 = .ok (.istore_n 3, 1) := by decide +kernel
theorem dX1_digest_11 : decode cX1_digest 11 = .ok (.iload_n 3, 1) := by decide +kernel
theorem dX1_digest_12 : decode cX1_digest 12 = .ok (.bipush 7, 2) := by decide +kernel
theorem dX1_digest_14 : decode cX1_digest 14 = .ok (.if_icmp .ge 22, 3) := by decide +kernel
theorem dX1_digest_17 : decode cX1_digest 17 = .ok (.lload_n 1, 1) := by decide +kernel
theorem dX1_digest_18 : decode cX1_digest 18 = .ok (.ldc2_w 145, 3) := by decide +kernel
theorem dX1_digest_21 : decode cX1_digest 21 = .ok (.lmul, 1) := by decide +kernel
theorem dX1_digest_22 : decode cX1_digest 22 = .ok (.aload_n 0, 1) := by decide +kernel
theorem dX1_digest_23 : decode cX1_digest 23 = .ok (.iload_n 3, 1) := by decide +kernel
theorem dX1_digest_24 : decode cX1_digest 24 = .ok (.invokevirtual 140, 3) := by decide +kernel
theorem dX1_digest_27 : decode cX1_digest 27 = .ok (.i2l, 1) := by decide +kernel
theorem dX1_digest_28 : decode cX1_digest 28 = .ok (.ladd, 1) := by decide +kernel
theorem dX1_digest_29 : decode cX1_digest 29 = .ok (.lstore_n 1, 1) := by decide +kernel
theorem dX1_digest_30 : decode cX1_digest 30 = .ok (.iinc 3 1, 3) := by decide +kernel
theorem dX1_digest_33 : decode cX1_digest 33 = .ok (.goto (-22), 3) := by decide +kernel
theorem dX1_digest_36 : decode cX1_digest 36 = .ok (.aload_n 0, 1) := by decide +kernel
theorem dX1_digest_37 : decode cX1_digest 37 = .ok (.getfield 16, 3) := by decide +kernel
theorem dX1_digest_40 : decode cX1_digest 40 = .ok (.astore_n 3, 1) := by decide +kernel
theorem dX1_digest_41 : decode cX1_digest 41 = .ok (.aload_n 3, 1) := by decide +kernel
theorem dX1_digest_42 : decode cX1_digest 42 = .ok (.arraylength, 1) := by decide +kernel
theorem dX1_digest_43 : decode cX1_digest 43 = .ok (.istore 4, 2) := by decide +kernel
theorem dX1_digest_45 : decode cX1_digest 45 = .ok (.iconst 0, 1) := by decide +kernel
theorem dX1_digest_46 : decode cX1_digest 46 = .ok (.istore 5, 2) := by decide +kernel
theorem dX1_digest_48 : decode cX1_digest 48 = .ok (.iload 5, 2) := by decide +kernel
theorem dX1_digest_50 : decode cX1_digest 50 = .ok (.iload 4, 2) := by decide +kernel
theorem dX1_digest_52 : decode cX1_digest 52 = .ok (.if_icmp .ge 25, 3) := by decide +kernel
theorem dX1_digest_55 : decode cX1_digest 55 = .ok (.aload_n 3, 1) := by decide +kernel
theorem dX1_digest_56 : decode cX1_digest 56 = .ok (.iload 5, 2) := by decide +kernel
theorem dX1_digest_58 : decode cX1_digest 58 = .ok (.iaload, 1) := by decide +kernel
theorem dX1_digest_59 : decode cX1_digest 59 = .ok (.istore 6, 2) := by decide +kernel
theorem dX1_digest_61 : decode cX1_digest 61 = .ok (.lload_n 1, 1) := by decide +kernel
theorem dX1_digest_62 : decode cX1_digest 62 = .ok (.ldc2_w 145, 3) := by decide +kernel
theorem dX1_digest_65 : decode cX1_digest 65 = .ok (.lmul, 1) := by decide +kernel
theorem dX1_digest_66 : decode cX1_digest 66 = .ok (.iload 6, 2) := by decide +kernel
theorem dX1_digest_68 : decode cX1_digest 68 = .ok (.i2l, 1) := by decide +kernel
theorem dX1_digest_69 : decode cX1_digest 69 = .ok (.ladd, 1) := by decide +kernel
theorem dX1_digest_70 : decode cX1_digest 70 = .ok (.lstore_n 1, 1) := by decide +kernel
theorem dX1_digest_71 : decode cX1_digest 71 = .ok (.iinc 5 1, 3) := by decide +kernel
theorem dX1_digest_74 : decode cX1_digest 74 = .ok (.goto (-26), 3) := by decide +kernel
theorem dX1_digest_77 : decode cX1_digest 77 = .ok (.iconst 0, 1) := by decide +kernel
theorem dX1_digest_78 : decode cX1_digest 78 = .ok (.istore_n 3, 1) := by decide +kernel
theorem dX1_digest_79 : decode cX1_digest 79 = .ok (.iload_n 3, 1) := by decide +kernel
theorem dX1_digest_80 : decode cX1_digest 80 = .ok (.aload_n 0, 1) := by decide +kernel
theorem dX1_digest_81 : decode cX1_digest 81 = .ok (.getfield 23, 3) := by decide +kernel
theorem dX1_digest_84 : decode cX1_digest 84 = .ok (.if_icmp .ge 116, 3) := by decide +kernel
theorem dX1_digest_87 : decode cX1_digest 87 = .ok (.iconst 0, 1) := by decide +kernel
theorem dX1_digest_88 : decode cX1_digest 88 = .ok (.istore 4, 2) := by decide +kernel
theorem dX1_digest_90 : decode cX1_digest 90 = .ok (.iload 4, 2) := by decide +kernel
theorem dX1_digest_92 : decode cX1_digest 92 = .ok (.iconst 4, 1) := by decide +kernel
theorem dX1_digest_93 : decode cX1_digest 93 = .ok (.if_icmp .ge 24, 3) := by decide +kernel
theorem dX1_digest_96 : decode cX1_digest 96 = .ok (.lload_n 1, 1) := by decide +kernel
theorem dX1_digest_97 : decode cX1_digest 97 = .ok (.ldc2_w 145, 3) := by decide +kernel
theorem dX1_digest_100 : decode cX1_digest 100 = .ok (.lmul, 1) := by decide +kernel
theorem dX1_digest_101 : decode cX1_digest 101 = .ok (.aload_n 0, 1) := by decide +kernel
theorem dX1_digest_102 : decode cX1_digest 102 = .ok (.iload_n 3, 1) := by decide +kernel
theorem dX1_digest_103 : decode cX1_digest 103 = .ok (.iload 4, 2) := by decide +kernel
theorem dX1_digest_105 : decode cX1_digest 105 = .ok (.invokevirtual 46, 3) := by decide +kernel
theorem dX1_digest_108 : decode cX1_digest 108 = .ok (.i2l, 1) := by decide +kernel
theorem dX1_digest_109 : decode cX1_digest 109 = .ok (.ladd, 1) := by decide +kernel
theorem dX1_digest_110 : decode cX1_digest 110 = .ok (.lstore_n 1, 1) := by decide +kernel
theorem dX1_digest_111 : decode cX1_digest 111 = .ok (.iinc 4 1, 3) := by decide +kernel
theorem dX1_digest_114 : decode cX1_digest 114 = .ok (.goto (-24), 3) := by decide +kernel
theorem dX1_digest_117 : decode cX1_digest 117 = .ok (.iconst 0, 1) := by decide +kernel
theorem dX1_digest_118 : decode cX1_digest 118 = .ok (.istore 4, 2) := by decide +kernel
theorem dX1_digest_120 : decode cX1_digest 120 = .ok (.iload 4, 2) := by decide +kernel
theorem dX1_digest_122 : decode cX1_digest 122 = .ok (.bipush 6, 2) := by decide +kernel
theorem dX1_digest_124 : decode cX1_digest 124 = .ok (.if_icmp .ge 24, 3) := by decide +kernel
theorem dX1_digest_127 : decode cX1_digest 127 = .ok (.lload_n 1, 1) := by decide +kernel
theorem dX1_digest_128 : decode cX1_digest 128 = .ok (.ldc2_w 145, 3) := by decide +kernel
theorem dX1_digest_131 : decode cX1_digest 131 = .ok (.lmul, 1) := by decide +kernel
theorem dX1_digest_132 : decode cX1_digest 132 = .ok (.aload_n 0, 1) := by decide +kernel
theorem dX1_digest_133 : decode cX1_digest 133 = .ok (.iload_n 3, 1) := by decide +kernel
theorem dX1_digest_134 : decode cX1_digest 134 = .ok (.iload 4, 2) := by decide +kernel
theorem dX1_digest_136 : decode cX1_digest 136 = .ok (.invokevirtual 130, 3) := by decide +kernel
theorem dX1_digest_139 : decode cX1_digest 139 = .ok (.i2l, 1) := by decide +kernel
theorem dX1_digest_140 : decode cX1_digest 140 = .ok (.ladd, 1) := by decide +kernel
theorem dX1_digest_141 : decode cX1_digest 141 = .ok (.lstore_n 1, 1) := by decide +kernel
theorem dX1_digest_142 : decode cX1_digest 142 = .ok (.iinc 4 1, 3) := by decide +kernel
theorem dX1_digest_145 : decode cX1_digest 145 = .ok (.goto (-25), 3) := by decide +kernel
theorem dX1_digest_148 : decode cX1_digest 148 = .ok (.iconst 0, 1) := by decide +kernel
theorem dX1_digest_149 : decode cX1_digest 149 = .ok (.istore 4, 2) := by decide +kernel
theorem dX1_digest_151 : decode cX1_digest 151 = .ok (.iload 4, 2) := by decide +kernel
theorem dX1_digest_153 : decode cX1_digest 153 = .ok (.bipush 8, 2) := by decide +kernel
theorem dX1_digest_155 : decode cX1_digest 155 = .ok (.if_icmp .ge 24, 3) := by decide +kernel
theorem dX1_digest_158 : decode cX1_digest 158 = .ok (.lload_n 1, 1) := by decide +kernel
theorem dX1_digest_159 : decode cX1_digest 159 = .ok (.ldc2_w 145, 3) := by decide +kernel
theorem dX1_digest_162 : decode cX1_digest 162 = .ok (.lmul, 1) := by decide +kernel
theorem dX1_digest_163 : decode cX1_digest 163 = .ok (.aload_n 0, 1) := by decide +kernel
theorem dX1_digest_164 : decode cX1_digest 164 = .ok (.iload_n 3, 1) := by decide +kernel
theorem dX1_digest_165 : decode cX1_digest 165 = .ok (.iload 4, 2) := by decide +kernel
theorem dX1_digest_167 : decode cX1_digest 167 = .ok (.invokevirtual 97, 3) := by decide +kernel
theorem dX1_digest_170 : decode cX1_digest 170 = .ok (.i2l, 1) := by decide +kernel
theorem dX1_digest_171 : decode cX1_digest 171 = .ok (.ladd, 1) := by decide +kernel
theorem dX1_digest_172 : decode cX1_digest 172 = .ok (.lstore_n 1, 1) := by decide +kernel
theorem dX1_digest_173 : decode cX1_digest 173 = .ok (.iinc 4 1, 3) := by decide +kernel
theorem dX1_digest_176 : decode cX1_digest 176 = .ok (.goto (-25), 3) := by decide +kernel
theorem dX1_digest_179 : decode cX1_digest 179 = .ok (.lload_n 1, 1) := by decide +kernel
theorem dX1_digest_180 : decode cX1_digest 180 = .ok (.ldc2_w 145, 3) := by decide +kernel
theorem dX1_digest_183 : decode cX1_digest 183 = .ok (.lmul, 1) := by decide +kernel
theorem dX1_digest_184 : decode cX1_digest 184 = .ok (.aload_n 0, 1) := by decide +kernel
theorem dX1_digest_185 : decode cX1_digest 185 = .ok (.iload_n 3, 1) := by decide +kernel
theorem dX1_digest_186 : decode cX1_digest 186 = .ok (.invokevirtual 113, 3) := by decide +kernel
theorem dX1_digest_189 : decode cX1_digest 189 = .ok (.iconst 2, 1) := by decide +kernel
theorem dX1_digest_190 : decode cX1_digest 190 = .ok (.iaload, 1) := by decide +kernel
theorem dX1_digest_191 : decode cX1_digest 191 = .ok (.i2l, 1) := by decide +kernel
theorem dX1_digest_192 : decode cX1_digest 192 = .ok (.ladd, 1) := by decide +kernel
theorem dX1_digest_193 : decode cX1_digest 193 = .ok (.lstore_n 1, 1) := by decide +kernel
theorem dX1_digest_194 : decode cX1_digest 194 = .ok (.iinc 3 1, 3) := by decide +kernel
theorem dX1_digest_197 : decode cX1_digest 197 = .ok (.goto (-118), 3) := by decide +kernel
theorem dX1_digest_200 : decode cX1_digest 200 = .ok (.lload_n 1, 1) := by decide +kernel
theorem dX1_digest_201 : decode cX1_digest 201 = .ok (.lreturn, 1) := by decide +kernel
