theorem dJ9_abs_0f7a4_0 : decode cJ9_abs_0f7a4 0 = .ok (.iload_n 0, 1) := by decide +kernel
theorem dJ9_abs_0f7a4_1 : decode cJ9_abs_0f7a4 1 = .ok (.ifCond .ge 8, 3) := by decide +kernel
theorem dJ9_abs_0f7a4_4 : decode cJ9_abs_0f7a4 4 = .ok (.iload_n 0, 1) := by decide +kernel
theorem dJ9_abs_0f7a4_5 : decode cJ9_abs_0f7a4 5 = .ok (.ineg, 1) := by decide +kernel
theorem dJ9_abs_0f7a4_6 : decode cJ9_abs_0f7a4 6 = .ok (.goto 4, 3) := by decide +kernel
theorem dJ9_abs_0f7a4_9 : decode cJ9_abs_0f7a4 9 = .ok (.iload_n 0, 1) := by decide +kernel
theorem dJ9_abs_0f7a4_10 : decode cJ9_abs_0f7a4 10 = .ok (.ireturn, 1) := by decide +kernel
theorem dJ9_max_7cf53_0 : decode cJ9_max_7cf53 0 = .ok (.iload_n 0, 1) := by decide +kernel
theorem dJ9_max_7cf53_1 : decode cJ9_max_7cf53 1 = .ok (.iload_n 1, 1) := by decide +kernel
theorem dJ9_max_7cf53_2 : decode cJ9_max_7cf53 2 = .ok (.if_icmp .lt 7, 3) := by decide +kernel
theorem dJ9_max_7cf53_5 : decode cJ9_max_7cf53 5 = .ok (.iload_n 0, 1) := by decide +kernel
theorem dJ9_max_7cf53_6 : decode cJ9_max_7cf53 6 = .ok (.goto 4, 3) := by decide +kernel
theorem dJ9_max_7cf53_9 : decode cJ9_max_7cf53 9 = .ok (.iload_n 1, 1) := by decide +kernel
theorem dJ9_max_7cf53_10 : decode cJ9_max_7cf53 10 = .ok (.ireturn, 1) := by decide +kernel
theorem dL_below_0 : decode cL_below 0 = .ok (.iload_n 0, 1) := by decide +kernel
theorem dL_below_1 : decode cL_below 1 = .ok (.ldc 7, 2) := by decide +kernel
theorem dL_below_3 : decode cL_below 3 = .ok (.iand, 1) := by decide +kernel
theorem dL_below_4 : decode cL_below 4 = .ok (.iload_n 1, 1) := by decide +kernel
theorem dL_below_5 : decode cL_below 5 = .ok (.irem, 1) := by decide +kernel
theorem dL_below_6 : decode cL_below 6 = .ok (.ireturn, 1) := by decide +kernel
theorem dL_cell_0 : decode cL_cell 0 = .ok (.iload_n 1, 1) := by decide +kernel
theorem dL_cell_1 : decode cL_cell 1 = .ok (.aload_n 0, 1) := by decide +kernel
theorem dL_cell_2 : decode cL_cell 2 = .ok (.arraylength, 1) := by decide +kernel
theorem dL_cell_3 : decode cL_cell 3 = .ok (.if_icmp .ge 9, 3) := by decide +kernel
theorem dL_cell_6 : decode cL_cell 6 = .ok (.aload_n 0, 1) := by decide +kernel
theorem dL_cell_7 : decode cL_cell 7 = .ok (.iload_n 1, 1) := by decide +kernel
theorem dL_cell_8 : decode cL_cell 8 = .ok (.iaload, 1) := by decide +kernel
theorem dL_cell_9 : decode cL_cell 9 = .ok (.goto 9, 3) := by decide +kernel
theorem dL_cell_12 : decode cL_cell 12 = .ok (.ldc 8, 2) := by decide +kernel
theorem dL_cell_14 : decode cL_cell 14 = .ok (.iload_n 1, 1) := by decide +kernel
theorem dL_cell_15 : decode cL_cell 15 = .ok (.iconst 3, 1) := by decide +kernel
theorem dL_cell_16 : decode cL_cell 16 = .ok (.iadd, 1) := by decide +kernel
theorem dL_cell_17 : decode cL_cell 17 = .ok (.imul, 1) := by decide +kernel
theorem dL_cell_18 : decode cL_cell 18 = .ok (.ireturn, 1) := by decide +kernel
theorem dL_stepsOf_0 : decode cL_stepsOf 0 = .ok (.bipush 6, 2) := by decide +kernel
theorem dL_stepsOf_2 : decode cL_stepsOf 2 = .ok (.anewarray 9, 3) := by decide +kernel
theorem dL_stepsOf_5 : decode cL_stepsOf 5 = .ok (.dup, 1) := by decide +kernel
theorem dL_stepsOf_6 : decode cL_stepsOf 6 = .ok (.iconst 0, 1) := by decide +kernel
theorem dL_stepsOf_7 : decode cL_stepsOf 7 = .ok (.iconst 2, 1) := by decide +kernel
theorem dL_stepsOf_8 : decode cL_stepsOf 8 = .ok (.newarray .int, 2) := by decide +kernel
theorem dL_stepsOf_10 : decode cL_stepsOf 10 = .ok (.dup, 1) := by decide +kernel
theorem dL_stepsOf_11 : decode cL_stepsOf 11 = .ok (.iconst 0, 1) := by decide +kernel
theorem dL_stepsOf_12 : decode cL_stepsOf 12 = .ok (.iconst 2, 1) := by decide +kernel
theorem dL_stepsOf_13 : decode cL_stepsOf 13 = .ok (.iastore, 1) := by decide +kernel
theorem dL_stepsOf_14 : decode cL_stepsOf 14 = .ok (.dup, 1) := by decide +kernel
theorem dL_stepsOf_15 : decode cL_stepsOf 15 = .ok (.iconst 1, 1) := by decide +kernel
theorem dL_stepsOf_16 : decode cL_stepsOf 16 = .ok (.iconst 4, 1) := by decide +kernel
theorem dL_stepsOf_17 : decode cL_stepsOf 17 = .ok (.iastore, 1) := by decide +kernel
theorem dL_stepsOf_18 : decode cL_stepsOf 18 = .ok (.aastore, 1) := by decide +kernel
theorem dL_stepsOf_19 : decode cL_stepsOf 19 = .ok (.dup, 1) := by decide +kernel
theorem dL_stepsOf_20 : decode cL_stepsOf 20 = .ok (.iconst 1, 1) := by decide +kernel
theorem dL_stepsOf_21 : decode cL_stepsOf 21 = .ok (.iconst 2, 1) := by decide +kernel
theorem dL_stepsOf_22 : decode cL_stepsOf 22 = .ok (.newarray .int, 2) := by decide +kernel
theorem dL_stepsOf_24 : decode cL_stepsOf 24 = .ok (.dup, 1) := by decide +kernel
theorem dL_stepsOf_25 : decode cL_stepsOf 25 = .ok (.iconst 0, 1) := by decide +kernel
theorem dL_stepsOf_26 : decode cL_stepsOf 26 = .ok (.iconst 2, 1) := by decide +kernel
theorem dL_stepsOf_27 : decode cL_stepsOf 27 = .ok (.iastore, 1) := by decide +kernel
theorem dL_stepsOf_28 : decode cL_stepsOf 28 = .ok (.dup, 1) := by decide +kernel
theorem dL_stepsOf_29 : decode cL_stepsOf 29 = .ok (.iconst 1, 1) := by decide +kernel
theorem dL_stepsOf_30 : decode cL_stepsOf 30 = .ok (.iconst 5, 1) := by decide +kernel
theorem dL_stepsOf_31 : decode cL_stepsOf 31 = .ok (.iastore, 1) := by decide +kernel
theorem dL_stepsOf_32 : decode cL_stepsOf 32 = .ok (.aastore, 1) := by decide +kernel
theorem dL_stepsOf_33 : decode cL_stepsOf 33 = .ok (.dup, 1) := by decide +kernel
theorem dL_stepsOf_34 : decode cL_stepsOf 34 = .ok (.iconst 2, 1) := by decide +kernel
theorem dL_stepsOf_35 : decode cL_stepsOf 35 = .ok (.iconst 2, 1) := by decide +kernel
theorem dL_stepsOf_36 : decode cL_stepsOf 36 = .ok (.newarray .int, 2) := by decide +kernel
theorem dL_stepsOf_38 : decode cL_stepsOf 38 = .ok (.dup, 1) := by decide +kernel
theorem dL_stepsOf_39 : decode cL_stepsOf 39 = .ok (.iconst 0, 1) := by decide +kernel
theorem dL_stepsOf_40 : decode cL_stepsOf 40 = .ok (.iconst 3, 1) := by decide +kernel
theorem dL_stepsOf_41 : decode cL_stepsOf 41 = .ok (.iastore, 1) := by decide +kernel
theorem dL_stepsOf_42 : decode cL_stepsOf 42 = .ok (.dup, 1) := by decide +kernel
theorem dL_stepsOf_43 : decode cL_stepsOf 43 = .ok (.iconst 1, 1) := by decide +kernel
theorem dL_stepsOf_44 : decode cL_stepsOf 44 = .ok (.iconst 5, 1) := by decide +kernel
theorem dL_stepsOf_45 : decode cL_stepsOf 45 = .ok (.iastore, 1) := by decide +kernel
theorem dL_stepsOf_46 : decode cL_stepsOf 46 = .ok (.aastore, 1) := by decide +kernel
theorem dL_stepsOf_47 : decode cL_stepsOf 47 = .ok (.dup, 1) := by decide +kernel
theorem dL_stepsOf_48 : decode cL_stepsOf 48 = .ok (.iconst 3, 1) := by decide +kernel
theorem dL_stepsOf_49 : decode cL_stepsOf 49 = .ok (.iconst 3, 1) := by decide +kernel
theorem dL_stepsOf_50 : decode cL_stepsOf 50 = .ok (.newarray .int, 2) := by decide +kernel
theorem dL_stepsOf_52 : decode cL_stepsOf 52 = .ok (.dup, 1) := by decide +kernel
theorem dL_stepsOf_53 : decode cL_stepsOf 53 = .ok (.iconst 0, 1) := by decide +kernel
theorem dL_stepsOf_54 : decode cL_stepsOf 54 = .ok (.iconst 2, 1) := by decide +kernel
theorem dL_stepsOf_55 : decode cL_stepsOf 55 = .ok (.iastore, 1) := by decide +kernel
theorem dL_stepsOf_56 : decode cL_stepsOf 56 = .ok (.dup, 1) := by decide +kernel
theorem dL_stepsOf_57 : decode cL_stepsOf 57 = .ok (.iconst 1, 1) := by decide +kernel
theorem dL_stepsOf_58 : decode cL_stepsOf 58 = .ok (.iconst 4, 1) := by decide +kernel
theorem dL_stepsOf_59 : decode cL_stepsOf 59 = .ok (.iastore, 1) := by decide +kernel
theorem dL_stepsOf_60 : decode cL_stepsOf 60 = .ok (.dup, 1) := by decide +kernel
theorem dL_stepsOf_61 : decode cL_stepsOf 61 = .ok (.iconst 2, 1) := by decide +kernel
theorem dL_stepsOf_62 : decode cL_stepsOf 62 = .ok (.bipush 6, 2) := by decide +kernel
theorem dL_stepsOf_64 : decode cL_stepsOf 64 = .ok (.iastore, 1) := by decide +kernel
theorem dL_stepsOf_65 : decode cL_stepsOf 65 = .ok (.aastore, 1) := by decide +kernel
theorem dL_stepsOf_66 : decode cL_stepsOf 66 = .ok (.dup, 1) := by decide +kernel
theorem dL_stepsOf_67 : decode cL_stepsOf 67 = .ok (.iconst 4, 1) := by decide +kernel
theorem dL_stepsOf_68 : decode cL_stepsOf 68 = .ok (.iconst 2, 1) := by decide +kernel
theorem dL_stepsOf_69 : decode cL_stepsOf 69 = .ok (.newarray .int, 2) := by decide +kernel
theorem dL_stepsOf_71 : decode cL_stepsOf 71 = .ok (.dup, 1) := by decide +kernel
theorem dL_stepsOf_72 : decode cL_stepsOf 72 = .ok (.iconst 0, 1) := by decide +kernel
theorem dL_stepsOf_73 : decode cL_stepsOf 73 = .ok (.iconst 3, 1) := by decide +kernel
theorem dL_stepsOf_74 : decode cL_stepsOf 74 = .ok (.iastore, 1) := by decide +kernel
theorem dL_stepsOf_75 : decode cL_stepsOf 75 = .ok (.dup, 1) := by decide +kernel
theorem dL_stepsOf_76 : decode cL_stepsOf 76 = .ok (.iconst 1, 1) := by decide +kernel
theorem dL_stepsOf_77 : decode cL_stepsOf 77 = .ok (.iconst 4, 1) := by decide +kernel
theorem dL_stepsOf_78 : decode cL_stepsOf 78 = .ok (.iastore, 1) := by decide +kernel
theorem dL_stepsOf_79 : decode cL_stepsOf 79 = .ok (.aastore, 1) := by decide +kernel
theorem dL_stepsOf_80 : decode cL_stepsOf 80 = .ok (.dup, 1) := by decide +kernel
theorem dL_stepsOf_81 : decode cL_stepsOf 81 = .ok (.iconst 5, 1) := by decide +kernel
theorem dL_stepsOf_82 : decode cL_stepsOf 82 = .ok (.iconst 3, 1) := by decide +kernel
theorem dL_stepsOf_83 : decode cL_stepsOf 83 = .ok (.newarray .int, 2) := by decide +kernel
theorem dL_stepsOf_85 : decode cL_stepsOf 85 = .ok (.dup, 1) := by decide +kernel
theorem dL_stepsOf_86 : decode cL_stepsOf 86 = .ok (.iconst 0, 1) := by decide +kernel
theorem dL_stepsOf_87 : decode cL_stepsOf 87 = .ok (.iconst 2, 1) := by decide +kernel
theorem dL_stepsOf_88 : decode cL_stepsOf 88 = .ok (.iastore, 1) := by decide +kernel
theorem dL_stepsOf_89 : decode cL_stepsOf 89 = .ok (.dup, 1) := by decide +kernel
theorem dL_stepsOf_90 : decode cL_stepsOf 90 = .ok (.iconst 1, 1) := by decide +kernel
theorem dL_stepsOf_91 : decode cL_stepsOf 91 = .ok (.iconst 4, 1) := by decide +kernel
theorem dL_stepsOf_92 : decode cL_stepsOf 92 = .ok (.iastore, 1) := by decide +kernel
theorem dL_stepsOf_93 : decode cL_stepsOf 93 = .ok (.dup, 1) := by decide +kernel
theorem dL_stepsOf_94 : decode cL_stepsOf 94 = .ok (.iconst 2, 1) := by decide +kernel
theorem dL_stepsOf_95 : decode cL_stepsOf 95 = .ok (.iconst 5, 1) := by decide +kernel
theorem dL_stepsOf_96 : decode cL_stepsOf 96 = .ok (.iastore, 1) := by decide +kernel
theorem dL_stepsOf_97 : decode cL_stepsOf 97 = .ok (.aastore, 1) := by decide +kernel
theorem dL_stepsOf_98 : decode cL_stepsOf 98 = .ok (.astore_n 1, 1) := by decide +kernel
theorem dL_stepsOf_99 : decode cL_stepsOf 99 = .ok (.aload_n 1, 1) := by decide +kernel
theorem dL_stepsOf_100 : decode cL_stepsOf 100 = .ok (.iload_n 0, 1) := by decide +kernel
theorem dL_stepsOf_101 : decode cL_stepsOf 101 = .ok (.aaload, 1) := by decide +kernel
theorem dL_stepsOf_102 : decode cL_stepsOf 102 = .ok (.areturn, 1) := by decide +kernel
theorem dL_step_0 : decode cL_step 0 = .ok (.iload_n 0, 1) := by decide +kernel
theorem dL_step_1 : decode cL_step 1 = .ok (.iload_n 1, 1) := by decide +kernel
theorem dL_step_2 : decode cL_step 2 = .ok (.isub, 1) := by decide +kernel
theorem dL_step_3 : decode cL_step 3 = .ok (.bipush 7, 2) := by decide +kernel
theorem dL_step_5 : decode cL_step 5 = .ok (.irem, 1) := by decide +kernel
theorem dL_step_6 : decode cL_step 6 = .ok (.istore_n 2, 1) := by decide +kernel
theorem dL_step_7 : decode cL_step 7 = .ok (.iload_n 2, 1) := by decide +kernel
theorem dL_step_8 : decode cL_step 8 = .ok (.ifCond .ge 10, 3) := by decide +kernel
theorem dL_step_11 : decode cL_step 11 = .ok (.iload_n 2, 1) := by decide +kernel
theorem dL_step_12 : decode cL_step 12 = .ok (.bipush 7, 2) := by decide +kernel
theorem dL_step_14 : decode cL_step 14 = .ok (.iadd, 1) := by decide +kernel
theorem dL_step_15 : decode cL_step 15 = .ok (.goto 4, 3) := by decide +kernel
theorem dL_step_18 : decode cL_step 18 = .ok (.iload_n 2, 1) := by decide +kernel
theorem dL_step_19 : decode cL_step 19 = .ok (.ireturn, 1) := by decide +kernel
set_option maxRecDepth 20000 in
theorem ggL_belongs_L_step : GoodIn wsL_belongs wsL_step := goodIn_r _ [4] (by decide +kernel) (by decide +kernel)
set_option maxRecDepth 20000 in
theorem gL_belongs_L_step : GoodIn wsL_belongs (va_wsS RL 11 yL_step wsL_step) := goodIn_app (goodIn_of _ (by decide +kernel)) ggL_belongs_L_step
set_option maxRecDepth 20000 in
theorem ggL_belongs_L_stepsOf : GoodIn wsL_belongs wsL_stepsOf := goodIn_r _ [7, 8, 9] (by decide +kernel) (by decide +kernel)
set_option maxRecDepth 20000 in
theorem gL_belongs_L_stepsOf : GoodIn wsL_belongs (va_wsS RL 17 yL_stepsOf wsL_stepsOf) := goodIn_app (goodIn_of _ (by decide +kernel)) ggL_belongs_L_stepsOf
theorem dL_belongs_0 : decode cL_belongs 0 = .ok (.iload_n 0, 1) := by decide +kernel
theorem dL_belongs_1 : decode cL_belongs 1 = .ok (.iload_n 1, 1) := by decide +kernel
theorem dL_belongs_2 : decode cL_belongs 2 = .ok (.invokestatic 11, 3) := by decide +kernel
theorem dL_belongs_5 : decode cL_belongs 5 = .ok (.ifCond .ne 7, 3) := by decide +kernel
theorem dL_belongs_8 : decode cL_belongs 8 = .ok (.iconst 1, 1) := by decide +kernel
theorem dL_belongs_9 : decode cL_belongs 9 = .ok (.goto 4, 3) := by decide +kernel
theorem dL_belongs_12 : decode cL_belongs 12 = .ok (.iconst 0, 1) := by decide +kernel
theorem dL_belongs_13 : decode cL_belongs 13 = .ok (.istore_n 3, 1) := by decide +kernel
theorem dL_belongs_14 : decode cL_belongs 14 = .ok (.iload_n 2, 1) := by decide +kernel
theorem dL_belongs_15 : decode cL_belongs 15 = .ok (.invokestatic 17, 3) := by decide +kernel
theorem dL_belongs_18 : decode cL_belongs 18 = .ok (.astore 4, 2) := by decide +kernel
theorem dL_belongs_20 : decode cL_belongs 20 = .ok (.aload 4, 2) := by decide +kernel
theorem dL_belongs_22 : decode cL_belongs 22 = .ok (.arraylength, 1) := by decide +kernel
theorem dL_belongs_23 : decode cL_belongs 23 = .ok (.istore 5, 2) := by decide +kernel
theorem dL_belongs_25 : decode cL_belongs 25 = .ok (.iconst 0, 1) := by decide +kernel
theorem dL_belongs_26 : decode cL_belongs 26 = .ok (.istore 6, 2) := by decide +kernel
theorem dL_belongs_28 : decode cL_belongs 28 = .ok (.iload 6, 2) := by decide +kernel
theorem dL_belongs_30 : decode cL_belongs 30 = .ok (.iload 5, 2) := by decide +kernel
theorem dL_belongs_32 : decode cL_belongs 32 = .ok (.if_icmp .ge 34, 3) := by decide +kernel
theorem dL_belongs_35 : decode cL_belongs 35 = .ok (.aload 4, 2) := by decide +kernel
theorem dL_belongs_37 : decode cL_belongs 37 = .ok (.iload 6, 2) := by decide +kernel
theorem dL_belongs_39 : decode cL_belongs 39 = .ok (.iaload, 1) := by decide +kernel
theorem dL_belongs_40 : decode cL_belongs 40 = .ok (.istore 7, 2) := by decide +kernel
theorem dL_belongs_42 : decode cL_belongs 42 = .ok (.iload_n 3, 1) := by decide +kernel
theorem dL_belongs_43 : decode cL_belongs 43 = .ok (.iload_n 0, 1) := by decide +kernel
theorem dL_belongs_44 : decode cL_belongs 44 = .ok (.iload_n 1, 1) := by decide +kernel
theorem dL_belongs_45 : decode cL_belongs 45 = .ok (.invokestatic 11, 3) := by decide +kernel
theorem dL_belongs_48 : decode cL_belongs 48 = .ok (.iload 7, 2) := by decide +kernel
theorem dL_belongs_50 : decode cL_belongs 50 = .ok (.if_icmp .ne 7, 3) := by decide +kernel
theorem dL_belongs_53 : decode cL_belongs 53 = .ok (.iconst 1, 1) := by decide +kernel
theorem dL_belongs_54 : decode cL_belongs 54 = .ok (.goto 4, 3) := by decide +kernel
theorem dL_belongs_57 : decode cL_belongs 57 = .ok (.iconst 0, 1) := by decide +kernel
theorem dL_belongs_58 : decode cL_belongs 58 = .ok (.ior, 1) := by decide +kernel
theorem dL_belongs_59 : decode cL_belongs 59 = .ok (.istore_n 3, 1) := by decide +kernel
theorem dL_belongs_60 : decode cL_belongs 60 = .ok (.iinc 6 1, 3) := by decide +kernel
theorem dL_belongs_63 : decode cL_belongs 63 = .ok (.goto (-35), 3) := by decide +kernel
theorem dL_belongs_66 : decode cL_belongs 66 = .ok (.iload_n 3, 1) := by decide +kernel
theorem dL_belongs_67 : decode cL_belongs 67 = .ok (.ireturn, 1) := by decide +kernel
set_option maxRecDepth 20000 in
theorem ggL_weightsOf_L_cell : GoodIn wsL_weightsOf wsL_cell := goodIn_r _ [5, 6] (by decide +kernel) (by decide +kernel)
set_option maxRecDepth 20000 in
theorem gL_weightsOf_L_cell : GoodIn wsL_weightsOf (va_wsS RL 21 yL_cell wsL_cell) := goodIn_app (goodIn_of _ (by decide +kernel)) ggL_weightsOf_L_cell
set_option maxRecDepth 20000 in
theorem ggL_weightsOf_L_below : GoodIn wsL_weightsOf wsL_below := goodIn_r _ [9, 10] (by decide +kernel) (by decide +kernel)
set_option maxRecDepth 20000 in
theorem gL_weightsOf_L_below : GoodIn wsL_weightsOf (va_wsS RL 25 yL_below wsL_below) := goodIn_app (goodIn_of _ (by decide +kernel)) ggL_weightsOf_L_below
theorem dL_weightsOf_0 : decode cL_weightsOf 0 = .ok (.bipush 8, 2) := by decide +kernel
theorem dL_weightsOf_2 : decode cL_weightsOf 2 = .ok (.newarray .int, 2) := by decide +kernel
theorem dL_weightsOf_4 : decode cL_weightsOf 4 = .ok (.dup, 1) := by decide +kernel
theorem dL_weightsOf_5 : decode cL_weightsOf 5 = .ok (.iconst 0, 1) := by decide +kernel
theorem dL_weightsOf_6 : decode cL_weightsOf 6 = .ok (.iconst 2, 1) := by decide +kernel
theorem dL_weightsOf_7 : decode cL_weightsOf 7 = .ok (.iastore, 1) := by decide +kernel
theorem dL_weightsOf_8 : decode cL_weightsOf 8 = .ok (.dup, 1) := by decide +kernel
theorem dL_weightsOf_9 : decode cL_weightsOf 9 = .ok (.iconst 1, 1) := by decide +kernel
theorem dL_weightsOf_10 : decode cL_weightsOf 10 = .ok (.iconst 2, 1) := by decide +kernel
theorem dL_weightsOf_11 : decode cL_weightsOf 11 = .ok (.iastore, 1) := by decide +kernel
theorem dL_weightsOf_12 : decode cL_weightsOf 12 = .ok (.dup, 1) := by decide +kernel
theorem dL_weightsOf_13 : decode cL_weightsOf 13 = .ok (.iconst 2, 1) := by decide +kernel
theorem dL_weightsOf_14 : decode cL_weightsOf 14 = .ok (.iconst 2, 1) := by decide +kernel
theorem dL_weightsOf_15 : decode cL_weightsOf 15 = .ok (.iastore, 1) := by decide +kernel
theorem dL_weightsOf_16 : decode cL_weightsOf 16 = .ok (.dup, 1) := by decide +kernel
theorem dL_weightsOf_17 : decode cL_weightsOf 17 = .ok (.iconst 3, 1) := by decide +kernel
theorem dL_weightsOf_18 : decode cL_weightsOf 18 = .ok (.iconst 2, 1) := by decide +kernel
theorem dL_weightsOf_19 : decode cL_weightsOf 19 = .ok (.iastore, 1) := by decide +kernel
theorem dL_weightsOf_20 : decode cL_weightsOf 20 = .ok (.dup, 1) := by decide +kernel
theorem dL_weightsOf_21 : decode cL_weightsOf 21 = .ok (.iconst 4, 1) := by decide +kernel
theorem dL_weightsOf_22 : decode cL_weightsOf 22 = .ok (.iconst 2, 1) := by decide +kernel
theorem dL_weightsOf_23 : decode cL_weightsOf 23 = .ok (.iastore, 1) := by decide +kernel
theorem dL_weightsOf_24 : decode cL_weightsOf 24 = .ok (.dup, 1) := by decide +kernel
theorem dL_weightsOf_25 : decode cL_weightsOf 25 = .ok (.iconst 5, 1) := by decide +kernel
theorem dL_weightsOf_26 : decode cL_weightsOf 26 = .ok (.iconst 2, 1) := by decide +kernel
theorem dL_weightsOf_27 : decode cL_weightsOf 27 = .ok (.iastore, 1) := by decide +kernel
theorem dL_weightsOf_28 : decode cL_weightsOf 28 = .ok (.dup, 1) := by decide +kernel
theorem dL_weightsOf_29 : decode cL_weightsOf 29 = .ok (.bipush 6, 2) := by decide +kernel
theorem dL_weightsOf_31 : decode cL_weightsOf 31 = .ok (.iconst 2, 1) := by decide +kernel
theorem dL_weightsOf_32 : decode cL_weightsOf 32 = .ok (.iastore, 1) := by decide +kernel
theorem dL_weightsOf_33 : decode cL_weightsOf 33 = .ok (.dup, 1) := by decide +kernel
theorem dL_weightsOf_34 : decode cL_weightsOf 34 = .ok (.bipush 7, 2) := by decide +kernel
theorem dL_weightsOf_36 : decode cL_weightsOf 36 = .ok (.iconst 2, 1) := by decide +kernel
theorem dL_weightsOf_37 : decode cL_weightsOf 37 = .ok (.iastore, 1) := by decide +kernel
theorem dL_weightsOf_38 : decode cL_weightsOf 38 = .ok (.astore_n 1, 1) := by decide +kernel
theorem dL_weightsOf_39 : decode cL_weightsOf 39 = .ok (.iconst 0, 1) := by decide +kernel
theorem dL_weightsOf_40 : decode cL_weightsOf 40 = .ok (.istore_n 2, 1) := by decide +kernel
theorem dL_weightsOf_41 : decode cL_weightsOf 41 = .ok (.iload_n 2, 1) := by decide +kernel
theorem dL_weightsOf_42 : decode cL_weightsOf 42 = .ok (.bipush 8, 2) := by decide +kernel
theorem dL_weightsOf_44 : decode cL_weightsOf 44 = .ok (.if_icmp .ge 44, 3) := by decide +kernel
theorem dL_weightsOf_47 : decode cL_weightsOf 47 = .ok (.aload_n 0, 1) := by decide +kernel
theorem dL_weightsOf_48 : decode cL_weightsOf 48 = .ok (.bipush 13, 2) := by decide +kernel
theorem dL_weightsOf_50 : decode cL_weightsOf 50 = .ok (.invokestatic 21, 3) := by decide +kernel
theorem dL_weightsOf_53 : decode cL_weightsOf 53 = .ok (.iconst 2, 1) := by decide +kernel
theorem dL_weightsOf_54 : decode cL_weightsOf 54 = .ok (.iload_n 2, 1) := by decide +kernel
theorem dL_weightsOf_55 : decode cL_weightsOf 55 = .ok (.imul, 1) := by decide +kernel
theorem dL_weightsOf_56 : decode cL_weightsOf 56 = .ok (.ishr, 1) := by decide +kernel
theorem dL_weightsOf_57 : decode cL_weightsOf 57 = .ok (.iconst 3, 1) := by decide +kernel
theorem dL_weightsOf_58 : decode cL_weightsOf 58 = .ok (.invokestatic 25, 3) := by decide +kernel
theorem dL_weightsOf_61 : decode cL_weightsOf 61 = .ok (.ifCond .ne 21, 3) := by decide +kernel
theorem dL_weightsOf_64 : decode cL_weightsOf 64 = .ok (.aload_n 1, 1) := by decide +kernel
theorem dL_weightsOf_65 : decode cL_weightsOf 65 = .ok (.iload_n 2, 1) := by decide +kernel
theorem dL_weightsOf_66 : decode cL_weightsOf 66 = .ok (.aload_n 0, 1) := by decide +kernel
theorem dL_weightsOf_67 : decode cL_weightsOf 67 = .ok (.bipush 14, 2) := by decide +kernel
theorem dL_weightsOf_69 : decode cL_weightsOf 69 = .ok (.invokestatic 21, 3) := by decide +kernel
theorem dL_weightsOf_72 : decode cL_weightsOf 72 = .ok (.iconst 2, 1) := by decide +kernel
theorem dL_weightsOf_73 : decode cL_weightsOf 73 = .ok (.iload_n 2, 1) := by decide +kernel
theorem dL_weightsOf_74 : decode cL_weightsOf 74 = .ok (.imul, 1) := by decide +kernel
theorem dL_weightsOf_75 : decode cL_weightsOf 75 = .ok (.ishr, 1) := by decide +kernel
theorem dL_weightsOf_76 : decode cL_weightsOf 76 = .ok (.bipush 10, 2) := by decide +kernel
theorem dL_weightsOf_78 : decode cL_weightsOf 78 = .ok (.invokestatic 25, 3) := by decide +kernel
theorem dL_weightsOf_81 : decode cL_weightsOf 81 = .ok (.iastore, 1) := by decide +kernel
theorem dL_weightsOf_82 : decode cL_weightsOf 82 = .ok (.iinc 2 1, 3) := by decide +kernel
theorem dL_weightsOf_85 : decode cL_weightsOf 85 = .ok (.goto (-44), 3) := by decide +kernel
theorem dL_weightsOf_88 : decode cL_weightsOf 88 = .ok (.aload_n 1, 1) := by decide +kernel
theorem dL_weightsOf_89 : decode cL_weightsOf 89 = .ok (.areturn, 1) := by decide +kernel
set_option maxRecDepth 20000 in
theorem ggL_isMinorOf_L_cell : GoodIn wsL_isMinorOf wsL_cell := goodIn_r _ [4, 5] (by decide +kernel) (by decide +kernel)
set_option maxRecDepth 20000 in
theorem gL_isMinorOf_L_cell : GoodIn wsL_isMinorOf (va_wsS RL 21 yL_cell wsL_cell) := goodIn_app (goodIn_of _ (by decide +kernel)) ggL_isMinorOf_L_cell
set_option maxRecDepth 20000 in
theorem ggL_isMinorOf_L_below : GoodIn wsL_isMinorOf wsL_below := goodIn_r _ [8, 9] (by decide +kernel) (by decide +kernel)
set_option maxRecDepth 20000 in
theorem gL_isMinorOf_L_below : GoodIn wsL_isMinorOf (va_wsS RL 25 yL_below wsL_below) := goodIn_app (goodIn_of _ (by decide +kernel)) ggL_isMinorOf_L_below
theorem dL_isMinorOf_0 : decode cL_isMinorOf 0 = .ok (.aload_n 0, 1) := by decide +kernel
theorem dL_isMinorOf_1 : decode cL_isMinorOf 1 = .ok (.bipush 15, 2) := by decide +kernel
theorem dL_isMinorOf_3 : decode cL_isMinorOf 3 = .ok (.invokestatic 21, 3) := by decide +kernel
theorem dL_isMinorOf_6 : decode cL_isMinorOf 6 = .ok (.iconst 3, 1) := by decide +kernel
theorem dL_isMinorOf_7 : decode cL_isMinorOf 7 = .ok (.invokestatic 25, 3) := by decide +kernel
theorem dL_isMinorOf_10 : decode cL_isMinorOf 10 = .ok (.ifCond .ne 7, 3) := by decide +kernel
theorem dL_isMinorOf_13 : decode cL_isMinorOf 13 = .ok (.iconst 1, 1) := by decide +kernel
theorem dL_isMinorOf_14 : decode cL_isMinorOf 14 = .ok (.goto 4, 3) := by decide +kernel
theorem dL_isMinorOf_17 : decode cL_isMinorOf 17 = .ok (.iconst 0, 1) := by decide +kernel
theorem dL_isMinorOf_18 : decode cL_isMinorOf 18 = .ok (.ireturn, 1) := by decide +kernel
set_option maxRecDepth 20000 in
theorem ggL_rowOf_L_cell : GoodIn wsL_rowOf wsL_cell := goodIn_r _ [6, 7] (by decide +kernel) (by decide +kernel)
set_option maxRecDepth 20000 in
theorem gL_rowOf_L_cell : GoodIn wsL_rowOf (va_wsS RL 21 yL_cell wsL_cell) := goodIn_app (goodIn_of _ (by decide +kernel)) ggL_rowOf_L_cell
set_option maxRecDepth 20000 in
theorem ggL_rowOf_L_below : GoodIn wsL_rowOf wsL_below := goodIn_r _ [10, 11] (by decide +kernel) (by decide +kernel)
set_option maxRecDepth 20000 in
theorem gL_rowOf_L_below : GoodIn wsL_rowOf (va_wsS RL 25 yL_below wsL_below) := goodIn_app (goodIn_of _ (by decide +kernel)) ggL_rowOf_L_below
set_option maxRecDepth 20000 in
theorem ggL_rowOf_L_belongs : GoodIn wsL_rowOf wsL_belongs := goodIn_r _ [14, 15, 16, 5, 17, 18, 19, 20, 2, 1] (by decide +kernel) (by decide +kernel)
set_option maxRecDepth 20000 in
theorem gL_rowOf_L_belongs : GoodIn wsL_rowOf (va_wsS RL 28 yL_belongs wsL_belongs) := goodIn_app (goodIn_of _ (by decide +kernel)) ggL_rowOf_L_belongs
theorem dL_rowOf_0 : decode cL_rowOf 0 = .ok (.iconst 4, 1) := by decide +kernel
theorem dL_rowOf_1 : decode cL_rowOf 1 = .ok (.newarray .int, 2) := by decide +kernel
theorem dL_rowOf_3 : decode cL_rowOf 3 = .ok (.dup, 1) := by decide +kernel
theorem dL_rowOf_4 : decode cL_rowOf 4 = .ok (.iconst 0, 1) := by decide +kernel
theorem dL_rowOf_5 : decode cL_rowOf 5 = .ok (.iconst 0, 1) := by decide +kernel
theorem dL_rowOf_6 : decode cL_rowOf 6 = .ok (.iastore, 1) := by decide +kernel
theorem dL_rowOf_7 : decode cL_rowOf 7 = .ok (.dup, 1) := by decide +kernel
theorem dL_rowOf_8 : decode cL_rowOf 8 = .ok (.iconst 1, 1) := by decide +kernel
theorem dL_rowOf_9 : decode cL_rowOf 9 = .ok (.iconst 5, 1) := by decide +kernel
theorem dL_rowOf_10 : decode cL_rowOf 10 = .ok (.iastore, 1) := by decide +kernel
theorem dL_rowOf_11 : decode cL_rowOf 11 = .ok (.dup, 1) := by decide +kernel
theorem dL_rowOf_12 : decode cL_rowOf 12 = .ok (.iconst 2, 1) := by decide +kernel
theorem dL_rowOf_13 : decode cL_rowOf 13 = .ok (.bipush 8, 2) := by decide +kernel
theorem dL_rowOf_15 : decode cL_rowOf 15 = .ok (.iastore, 1) := by decide +kernel
theorem dL_rowOf_16 : decode cL_rowOf 16 = .ok (.dup, 1) := by decide +kernel
theorem dL_rowOf_17 : decode cL_rowOf 17 = .ok (.iconst 3, 1) := by decide +kernel
theorem dL_rowOf_18 : decode cL_rowOf 18 = .ok (.bipush 12, 2) := by decide +kernel
theorem dL_rowOf_20 : decode cL_rowOf 20 = .ok (.iastore, 1) := by decide +kernel
theorem dL_rowOf_21 : decode cL_rowOf 21 = .ok (.astore_n 1, 1) := by decide +kernel
theorem dL_rowOf_22 : decode cL_rowOf 22 = .ok (.iconst 4, 1) := by decide +kernel
theorem dL_rowOf_23 : decode cL_rowOf 23 = .ok (.newarray .int, 2) := by decide +kernel
theorem dL_rowOf_25 : decode cL_rowOf 25 = .ok (.dup, 1) := by decide +kernel
theorem dL_rowOf_26 : decode cL_rowOf 26 = .ok (.iconst 0, 1) := by decide +kernel
theorem dL_rowOf_27 : decode cL_rowOf 27 = .ok (.bipush 14, 2) := by decide +kernel
theorem dL_rowOf_29 : decode cL_rowOf 29 = .ok (.iastore, 1) := by decide +kernel
theorem dL_rowOf_30 : decode cL_rowOf 30 = .ok (.dup, 1) := by decide +kernel
theorem dL_rowOf_31 : decode cL_rowOf 31 = .ok (.iconst 1, 1) := by decide +kernel
theorem dL_rowOf_32 : decode cL_rowOf 32 = .ok (.bipush 10, 2) := by decide +kernel
theorem dL_rowOf_34 : decode cL_rowOf 34 = .ok (.iastore, 1) := by decide +kernel
theorem dL_rowOf_35 : decode cL_rowOf 35 = .ok (.dup, 1) := by decide +kernel
theorem dL_rowOf_36 : decode cL_rowOf 36 = .ok (.iconst 2, 1) := by decide +kernel
theorem dL_rowOf_37 : decode cL_rowOf 37 = .ok (.bipush 11, 2) := by decide +kernel
theorem dL_rowOf_39 : decode cL_rowOf 39 = .ok (.iastore, 1) := by decide +kernel
theorem dL_rowOf_40 : decode cL_rowOf 40 = .ok (.dup, 1) := by decide +kernel
theorem dL_rowOf_41 : decode cL_rowOf 41 = .ok (.iconst 3, 1) := by decide +kernel
theorem dL_rowOf_42 : decode cL_rowOf 42 = .ok (.bipush 11, 2) := by decide +kernel
theorem dL_rowOf_44 : decode cL_rowOf 44 = .ok (.iastore, 1) := by decide +kernel
theorem dL_rowOf_45 : decode cL_rowOf 45 = .ok (.astore_n 2, 1) := by decide +kernel
theorem dL_rowOf_46 : decode cL_rowOf 46 = .ok (.iconst 2, 1) := by decide +kernel
theorem dL_rowOf_47 : decode cL_rowOf 47 = .ok (.aload_n 0, 1) := by decide +kernel
theorem dL_rowOf_48 : decode cL_rowOf 48 = .ok (.iconst 0, 1) := by decide +kernel
theorem dL_rowOf_49 : decode cL_rowOf 49 = .ok (.invokestatic 21, 3) := by decide +kernel
theorem dL_rowOf_52 : decode cL_rowOf 52 = .ok (.bipush 6, 2) := by decide +kernel
theorem dL_rowOf_54 : decode cL_rowOf 54 = .ok (.invokestatic 25, 3) := by decide +kernel
theorem dL_rowOf_57 : decode cL_rowOf 57 = .ok (.iadd, 1) := by decide +kernel
theorem dL_rowOf_58 : decode cL_rowOf 58 = .ok (.istore_n 3, 1) := by decide +kernel
theorem dL_rowOf_59 : decode cL_rowOf 59 = .ok (.iload_n 3, 1) := by decide +kernel
theorem dL_rowOf_60 : decode cL_rowOf 60 = .ok (.anewarray 9, 3) := by decide +kernel
theorem dL_rowOf_63 : decode cL_rowOf 63 = .ok (.astore 4, 2) := by decide +kernel
theorem dL_rowOf_65 : decode cL_rowOf 65 = .ok (.iconst 0, 1) := by decide +kernel
theorem dL_rowOf_66 : decode cL_rowOf 66 = .ok (.istore 5, 2) := by decide +kernel
theorem dL_rowOf_68 : decode cL_rowOf 68 = .ok (.iload 5, 2) := by decide +kernel
theorem dL_rowOf_70 : decode cL_rowOf 70 = .ok (.iload_n 3, 1) := by decide +kernel
theorem dL_rowOf_71 : decode cL_rowOf 71 = .ok (.if_icmp .ge 204, 3) := by decide +kernel
theorem dL_rowOf_74 : decode cL_rowOf 74 = .ok (.aload_n 0, 1) := by decide +kernel
theorem dL_rowOf_75 : decode cL_rowOf 75 = .ok (.iconst 1, 1) := by decide +kernel
theorem dL_rowOf_76 : decode cL_rowOf 76 = .ok (.iload 5, 2) := by decide +kernel
theorem dL_rowOf_78 : decode cL_rowOf 78 = .ok (.iadd, 1) := by decide +kernel
theorem dL_rowOf_79 : decode cL_rowOf 79 = .ok (.invokestatic 21, 3) := by decide +kernel
theorem dL_rowOf_82 : decode cL_rowOf 82 = .ok (.istore 6, 2) := by decide +kernel
theorem dL_rowOf_84 : decode cL_rowOf 84 = .ok (.aload 4, 2) := by decide +kernel
theorem dL_rowOf_86 : decode cL_rowOf 86 = .ok (.iload 5, 2) := by decide +kernel
theorem dL_rowOf_88 : decode cL_rowOf 88 = .ok (.iconst 5, 1) := by decide +kernel
theorem dL_rowOf_89 : decode cL_rowOf 89 = .ok (.newarray .int, 2) := by decide +kernel
theorem dL_rowOf_91 : decode cL_rowOf 91 = .ok (.dup, 1) := by decide +kernel
theorem dL_rowOf_92 : decode cL_rowOf 92 = .ok (.iconst 0, 1) := by decide +kernel
theorem dL_rowOf_93 : decode cL_rowOf 93 = .ok (.iload 6, 2) := by decide +kernel
theorem dL_rowOf_95 : decode cL_rowOf 95 = .ok (.bipush 14, 2) := by decide +kernel
theorem dL_rowOf_97 : decode cL_rowOf 97 = .ok (.invokestatic 25, 3) := by decide +kernel
theorem dL_rowOf_100 : decode cL_rowOf 100 = .ok (.iastore, 1) := by decide +kernel
theorem dL_rowOf_101 : decode cL_rowOf 101 = .ok (.dup, 1) := by decide +kernel
theorem dL_rowOf_102 : decode cL_rowOf 102 = .ok (.iconst 1, 1) := by decide +kernel
theorem dL_rowOf_103 : decode cL_rowOf 103 = .ok (.iconst (-1), 1) := by decide +kernel
theorem dL_rowOf_104 : decode cL_rowOf 104 = .ok (.iastore, 1) := by decide +kernel
theorem dL_rowOf_105 : decode cL_rowOf 105 = .ok (.dup, 1) := by decide +kernel
theorem dL_rowOf_106 : decode cL_rowOf 106 = .ok (.iconst 2, 1) := by decide +kernel
theorem dL_rowOf_107 : decode cL_rowOf 107 = .ok (.iconst (-1), 1) := by decide +kernel
theorem dL_rowOf_108 : decode cL_rowOf 108 = .ok (.iastore, 1) := by decide +kernel
theorem dL_rowOf_109 : decode cL_rowOf 109 = .ok (.dup, 1) := by decide +kernel
theorem dL_rowOf_110 : decode cL_rowOf 110 = .ok (.iconst 3, 1) := by decide +kernel
theorem dL_rowOf_111 : decode cL_rowOf 111 = .ok (.iconst (-1), 1) := by decide +kernel
theorem dL_rowOf_112 : decode cL_rowOf 112 = .ok (.iastore, 1) := by decide +kernel
theorem dL_rowOf_113 : decode cL_rowOf 113 = .ok (.dup, 1) := by decide +kernel
theorem dL_rowOf_114 : decode cL_rowOf 114 = .ok (.iconst 4, 1) := by decide +kernel
theorem dL_rowOf_115 : decode cL_rowOf 115 = .ok (.iload 6, 2) := by decide +kernel
theorem dL_rowOf_117 : decode cL_rowOf 117 = .ok (.iconst 4, 1) := by decide +kernel
theorem dL_rowOf_118 : decode cL_rowOf 118 = .ok (.ishr, 1) := by decide +kernel
theorem dL_rowOf_119 : decode cL_rowOf 119 = .ok (.bipush 6, 2) := by decide +kernel
theorem dL_rowOf_121 : decode cL_rowOf 121 = .ok (.invokestatic 25, 3) := by decide +kernel
theorem dL_rowOf_124 : decode cL_rowOf 124 = .ok (.iastore, 1) := by decide +kernel
theorem dL_rowOf_125 : decode cL_rowOf 125 = .ok (.aastore, 1) := by decide +kernel
theorem dL_rowOf_126 : decode cL_rowOf 126 = .ok (.iconst 1, 1) := by decide +kernel
theorem dL_rowOf_127 : decode cL_rowOf 127 = .ok (.istore 7, 2) := by decide +kernel
theorem dL_rowOf_129 : decode cL_rowOf 129 = .ok (.iload 7, 2) := by decide +kernel
theorem dL_rowOf_131 : decode cL_rowOf 131 = .ok (.iconst 4, 1) := by decide +kernel
theorem dL_rowOf_132 : decode cL_rowOf 132 = .ok (.if_icmp .ge 137, 3) := by decide +kernel
theorem dL_rowOf_135 : decode cL_rowOf 135 = .ok (.iload 6, 2) := by decide +kernel
theorem dL_rowOf_137 : decode cL_rowOf 137 = .ok (.iconst 5, 1) := by decide +kernel
theorem dL_rowOf_138 : decode cL_rowOf 138 = .ok (.iload 7, 2) := by decide +kernel
theorem dL_rowOf_140 : decode cL_rowOf 140 = .ok (.imul, 1) := by decide +kernel
theorem dL_rowOf_141 : decode cL_rowOf 141 = .ok (.ishr, 1) := by decide +kernel
theorem dL_rowOf_142 : decode cL_rowOf 142 = .ok (.bipush 9, 2) := by decide +kernel
theorem dL_rowOf_144 : decode cL_rowOf 144 = .ok (.invokestatic 25, 3) := by decide +kernel
theorem dL_rowOf_147 : decode cL_rowOf 147 = .ok (.ifCond .ne 6, 3) := by decide +kernel
theorem dL_rowOf_150 : decode cL_rowOf 150 = .ok (.goto 113, 3) := by decide +kernel
theorem dL_rowOf_153 : decode cL_rowOf 153 = .ok (.aload_n 1, 1) := by decide +kernel
theorem dL_rowOf_154 : decode cL_rowOf 154 = .ok (.iload 7, 2) := by decide +kernel
theorem dL_rowOf_156 : decode cL_rowOf 156 = .ok (.iaload, 1) := by decide +kernel
theorem dL_rowOf_157 : decode cL_rowOf 157 = .ok (.iload 6, 2) := by decide +kernel
theorem dL_rowOf_159 : decode cL_rowOf 159 = .ok (.iconst 3, 1) := by decide +kernel
theorem dL_rowOf_160 : decode cL_rowOf 160 = .ok (.iload 7, 2) := by decide +kernel
theorem dL_rowOf_162 : decode cL_rowOf 162 = .ok (.imul, 1) := by decide +kernel
theorem dL_rowOf_163 : decode cL_rowOf 163 = .ok (.ishr, 1) := by decide +kernel
theorem dL_rowOf_164 : decode cL_rowOf 164 = .ok (.aload_n 2, 1) := by decide +kernel
theorem dL_rowOf_165 : decode cL_rowOf 165 = .ok (.iload 7, 2) := by decide +kernel
theorem dL_rowOf_167 : decode cL_rowOf 167 = .ok (.iaload, 1) := by decide +kernel
theorem dL_rowOf_168 : decode cL_rowOf 168 = .ok (.invokestatic 25, 3) := by decide +kernel
theorem dL_rowOf_171 : decode cL_rowOf 171 = .ok (.iadd, 1) := by decide +kernel
theorem dL_rowOf_172 : decode cL_rowOf 172 = .ok (.istore 8, 2) := by decide +kernel
theorem dL_rowOf_174 : decode cL_rowOf 174 = .ok (.iconst 0, 1) := by decide +kernel
theorem dL_rowOf_175 : decode cL_rowOf 175 = .ok (.istore 9, 2) := by decide +kernel
theorem dL_rowOf_177 : decode cL_rowOf 177 = .ok (.iload 9, 2) := by decide +kernel
theorem dL_rowOf_179 : decode cL_rowOf 179 = .ok (.bipush 7, 2) := by decide +kernel
theorem dL_rowOf_181 : decode cL_rowOf 181 = .ok (.if_icmp .ge 72, 3) := by decide +kernel
theorem dL_rowOf_184 : decode cL_rowOf 184 = .ok (.iload 6, 2) := by decide +kernel
theorem dL_rowOf_186 : decode cL_rowOf 186 = .ok (.iload 7, 2) := by decide +kernel
theorem dL_rowOf_188 : decode cL_rowOf 188 = .ok (.ishr, 1) := by decide +kernel
theorem dL_rowOf_189 : decode cL_rowOf 189 = .ok (.iconst 4, 1) := by decide +kernel
theorem dL_rowOf_190 : decode cL_rowOf 190 = .ok (.invokestatic 25, 3) := by decide +kernel
theorem dL_rowOf_193 : decode cL_rowOf 193 = .ok (.ifCond .le 60, 3) := by decide +kernel
theorem dL_rowOf_196 : decode cL_rowOf 196 = .ok (.iload 8, 2) := by decide +kernel
theorem dL_rowOf_198 : decode cL_rowOf 198 = .ok (.aload 4, 2) := by decide +kernel
theorem dL_rowOf_200 : decode cL_rowOf 200 = .ok (.iload 5, 2) := by decide +kernel
theorem dL_rowOf_202 : decode cL_rowOf 202 = .ok (.aaload, 1) := by decide +kernel
theorem dL_rowOf_203 : decode cL_rowOf 203 = .ok (.iconst 0, 1) := by decide +kernel
theorem dL_rowOf_204 : decode cL_rowOf 204 = .ok (.iaload, 1) := by decide +kernel
theorem dL_rowOf_205 : decode cL_rowOf 205 = .ok (.aload 4, 2) := by decide +kernel
theorem dL_rowOf_207 : decode cL_rowOf 207 = .ok (.iload 5, 2) := by decide +kernel
theorem dL_rowOf_209 : decode cL_rowOf 209 = .ok (.aaload, 1) := by decide +kernel
theorem dL_rowOf_210 : decode cL_rowOf 210 = .ok (.iconst 4, 1) := by decide +kernel
theorem dL_rowOf_211 : decode cL_rowOf 211 = .ok (.iaload, 1) := by decide +kernel
theorem dL_rowOf_212 : decode cL_rowOf 212 = .ok (.invokestatic 28, 3) := by decide +kernel
theorem dL_rowOf_215 : decode cL_rowOf 215 = .ok (.ifCond .ne 38, 3) := by decide +kernel
theorem dL_rowOf_218 : decode cL_rowOf 218 = .ok (.iload 8, 2) := by decide +kernel
theorem dL_rowOf_220 : decode cL_rowOf 220 = .ok (.iconst 1, 1) := by decide +kernel
theorem dL_rowOf_221 : decode cL_rowOf 221 = .ok (.iadd, 1) := by decide +kernel
theorem dL_rowOf_222 : decode cL_rowOf 222 = .ok (.aload_n 1, 1) := by decide +kernel
theorem dL_rowOf_223 : decode cL_rowOf 223 = .ok (.iload 7, 2) := by decide +kernel
theorem dL_rowOf_225 : decode cL_rowOf 225 = .ok (.iaload, 1) := by decide +kernel
theorem dL_rowOf_226 : decode cL_rowOf 226 = .ok (.aload_n 2, 1) := by decide +kernel
theorem dL_rowOf_227 : decode cL_rowOf 227 = .ok (.iload 7, 2) := by decide +kernel
theorem dL_rowOf_229 : decode cL_rowOf 229 = .ok (.iaload, 1) := by decide +kernel
theorem dL_rowOf_230 : decode cL_rowOf 230 = .ok (.iadd, 1) := by decide +kernel
theorem dL_rowOf_231 : decode cL_rowOf 231 = .ok (.if_icmp .ge 10, 3) := by decide +kernel
theorem dL_rowOf_234 : decode cL_rowOf 234 = .ok (.iload 8, 2) := by decide +kernel
theorem dL_rowOf_236 : decode cL_rowOf 236 = .ok (.iconst 1, 1) := by decide +kernel
theorem dL_rowOf_237 : decode cL_rowOf 237 = .ok (.iadd, 1) := by decide +kernel
theorem dL_rowOf_238 : decode cL_rowOf 238 = .ok (.goto 7, 3) := by decide +kernel
theorem dL_rowOf_241 : decode cL_rowOf 241 = .ok (.aload_n 1, 1) := by decide +kernel
theorem dL_rowOf_242 : decode cL_rowOf 242 = .ok (.iload 7, 2) := by decide +kernel
theorem dL_rowOf_244 : decode cL_rowOf 244 = .ok (.iaload, 1) := by decide +kernel
theorem dL_rowOf_245 : decode cL_rowOf 245 = .ok (.istore 8, 2) := by decide +kernel
theorem dL_rowOf_247 : decode cL_rowOf 247 = .ok (.iinc 9 1, 3) := by decide +kernel
theorem dL_rowOf_250 : decode cL_rowOf 250 = .ok (.goto (-73), 3) := by decide +kernel
theorem dL_rowOf_253 : decode cL_rowOf 253 = .ok (.aload 4, 2) := by decide +kernel
theorem dL_rowOf_255 : decode cL_rowOf 255 = .ok (.iload 5, 2) := by decide +kernel
theorem dL_rowOf_257 : decode cL_rowOf 257 = .ok (.aaload, 1) := by decide +kernel
theorem dL_rowOf_258 : decode cL_rowOf 258 = .ok (.iload 7, 2) := by decide +kernel
theorem dL_rowOf_260 : decode cL_rowOf 260 = .ok (.iload 8, 2) := by decide +kernel
theorem dL_rowOf_262 : decode cL_rowOf 262 = .ok (.iastore, 1) := by decide +kernel
theorem dL_rowOf_263 : decode cL_rowOf 263 = .ok (.iinc 7 1, 3) := by decide +kernel
theorem dL_rowOf_266 : decode cL_rowOf 266 = .ok (.goto (-137), 3) := by decide +kernel
theorem dL_rowOf_269 : decode cL_rowOf 269 = .ok (.iinc 5 1, 3) := by decide +kernel
theorem dL_rowOf_272 : decode cL_rowOf 272 = .ok (.goto (-204), 3) := by decide +kernel
theorem dL_rowOf_275 : decode cL_rowOf 275 = .ok (.aload 4, 2) := by decide +kernel
theorem dL_rowOf_277 : decode cL_rowOf 277 = .ok (.areturn, 1) := by decide +kernel
set_option maxRecDepth 20000 in
theorem ggL_told_X0_init : GoodIn wsL_told wsX0_init := goodIn_r _ [6, 7, 8, 9, 10, 11, 12, 13, 14, 15, 16, 81, 82, 83, 84, 85, 86] (by decide +kernel) (by decide +kernel)
set_option maxRecDepth 20000 in
theorem gL_told_X0_init : GoodIn wsL_told (wsX0_init) := ggL_told_X0_init
set_option maxRecDepth 20000 in
theorem ggL_told_L_isMinorOf : GoodIn wsL_told wsL_isMinorOf := goodIn_r _ [20, 21, 22, 19, 23, 24, 25, 26, 27, 28] (by decide +kernel) (by decide +kernel)
set_option maxRecDepth 20000 in
theorem gL_told_L_isMinorOf : GoodIn wsL_told (va_wsS RL 35 yL_isMinorOf wsL_isMinorOf) := goodIn_app (goodIn_of _ (by decide +kernel)) ggL_told_L_isMinorOf
set_option maxRecDepth 20000 in
theorem ggL_told_X0_setKey : GoodIn wsL_told wsX0_setKey := goodIn_r _ [32, 11, 81, 82, 83, 84, 85, 86] (by decide +kernel) (by decide +kernel)
set_option maxRecDepth 20000 in
theorem gL_told_X0_setKey : GoodIn wsL_told (wsV RL 39 RX0 yX0_setKey wsX0_setKey) := goodIn_app (goodIn_of _ (by decide +kernel)) ggL_told_X0_setKey
set_option maxRecDepth 20000 in
theorem ggL_told_L_weightsOf : GoodIn wsL_told wsL_weightsOf := goodIn_r _ [35, 12, 21, 22, 19, 23, 24, 25, 26, 27, 28] (by decide +kernel) (by decide +kernel)
set_option maxRecDepth 20000 in
theorem gL_told_L_weightsOf : GoodIn wsL_told (va_wsS RL 43 yL_weightsOf wsL_weightsOf) := goodIn_app (goodIn_of _ (by decide +kernel)) ggL_told_L_weightsOf
set_option maxRecDepth 20000 in
theorem ggL_told_X0_setWeight : GoodIn wsL_told wsX0_setWeight := goodIn_ca (goodIn_ca (goodIn_r _ [39, 40, 41, 42, 43, 15, 44, 45, 3, 46, 81, 82, 83, 84, 85, 86] (by decide +kernel) (by decide +kernel)) (goodIn_sub (fun _ h => List.mem_cons_of_mem _ (List.mem_append_left _ (List.mem_append_left _ (List.mem_append_right _ h)))) (by decide +kernel))) (goodIn_sub (fun _ h => List.mem_cons_of_mem _ (List.mem_append_left _ (List.mem_append_right _ h))) (by decide +kernel))
set_option maxRecDepth 20000 in
theorem gL_told_X0_setWeight : GoodIn wsL_told (wsV RL 47 RX0 yX0_setWeight wsX0_setWeight) := goodIn_app (goodIn_of _ (by decide +kernel)) ggL_told_X0_setWeight
set_option maxRecDepth 20000 in
theorem ggL_told_X0_chord : GoodIn wsL_told wsX0_chord := goodIn_ca (goodIn_ca (goodIn_r _ [50, 42, 43, 51, 52, 10, 13, 14, 53, 54, 3, 55, 56, 57, 58, 59, 60, 61, 62, 63, 64, 65, 81, 82, 83, 84, 85, 86] (by decide +kernel) (by decide +kernel)) (goodIn_sub (fun _ h => List.mem_cons_of_mem _ (List.mem_append_left _ (List.mem_append_right _ h))) (by decide +kernel))) (goodIn_sub (fun _ h => List.mem_cons_of_mem _ (List.mem_append_right _ h)) (by decide +kernel))
set_option maxRecDepth 20000 in
theorem gL_told_X0_chord : GoodIn wsL_told (wsV RL 50 RX0 yX0_chord wsX0_chord) := goodIn_app (goodIn_of _ (by decide +kernel)) ggL_told_X0_chord
set_option maxRecDepth 20000 in
theorem ggL_told_X0_put : GoodIn wsL_told wsX0_put := goodIn_ca (goodIn_ca (goodIn_r _ [69, 40, 41, 42, 43, 70, 71, 72, 3, 73, 10, 74, 75, 76, 53, 54, 55, 56, 57, 77, 78, 79, 80, 14, 81, 82, 83, 84, 85, 86] (by decide +kernel) (by decide +kernel)) (goodIn_sub (fun _ h => List.mem_cons_of_mem _ (List.mem_append_left _ (List.mem_append_left _ (List.mem_append_right _ h)))) (by decide +kernel))) (goodIn_sub (fun _ h => List.mem_cons_of_mem _ (List.mem_append_left _ (List.mem_append_right _ h))) (by decide +kernel))
set_option maxRecDepth 20000 in
theorem gL_told_X0_put : GoodIn wsL_told (wsV RL 53 RX0 yX0_put wsX0_put) := goodIn_app (goodIn_of _ (by decide +kernel)) ggL_told_X0_put
theorem dL_told_0 : decode cL_told 0 = .ok (.new 32, 3) := by decide +kernel
theorem dL_told_3 : decode cL_told 3 = .ok (.dup, 1) := by decide +kernel
theorem dL_told_4 : decode cL_told 4 = .ok (.invokespecial 34, 3) := by decide +kernel
theorem dL_told_7 : decode cL_told 7 = .ok (.astore_n 2, 1) := by decide +kernel
theorem dL_told_8 : decode cL_told 8 = .ok (.aload_n 2, 1) := by decide +kernel
theorem dL_told_9 : decode cL_told 9 = .ok (.aload_n 0, 1) := by decide +kernel
theorem dL_told_10 : decode cL_told 10 = .ok (.invokestatic 35, 3) := by decide +kernel
theorem dL_told_13 : decode cL_told 13 = .ok (.invokevirtual 39, 3) := by decide +kernel
theorem dL_told_16 : decode cL_told 16 = .ok (.pop, 1) := by decide +kernel
theorem dL_told_17 : decode cL_told 17 = .ok (.aload_n 0, 1) := by decide +kernel
theorem dL_told_18 : decode cL_told 18 = .ok (.invokestatic 43, 3) := by decide +kernel
theorem dL_told_21 : decode cL_told 21 = .ok (.astore_n 3, 1) := by decide +kernel
theorem dL_told_22 : decode cL_told 22 = .ok (.iconst 0, 1) := by decide +kernel
theorem dL_told_23 : decode cL_told 23 = .ok (.istore 4, 2) := by decide +kernel
theorem dL_told_25 : decode cL_told 25 = .ok (.iload 4, 2) := by decide +kernel
theorem dL_told_27 : decode cL_told 27 = .ok (.bipush 8, 2) := by decide +kernel
theorem dL_told_29 : decode cL_told 29 = .ok (.if_icmp .ge 20, 3) := by decide +kernel
theorem dL_told_32 : decode cL_told 32 = .ok (.aload_n 2, 1) := by decide +kernel
theorem dL_told_33 : decode cL_told 33 = .ok (.iload 4, 2) := by decide +kernel
theorem dL_told_35 : decode cL_told 35 = .ok (.aload_n 3, 1) := by decide +kernel
theorem dL_told_36 : decode cL_told 36 = .ok (.iload 4, 2) := by decide +kernel
theorem dL_told_38 : decode cL_told 38 = .ok (.iaload, 1) := by decide +kernel
theorem dL_told_39 : decode cL_told 39 = .ok (.invokevirtual 47, 3) := by decide +kernel
theorem dL_told_42 : decode cL_told 42 = .ok (.pop, 1) := by decide +kernel
theorem dL_told_43 : decode cL_told 43 = .ok (.iinc 4 1, 3) := by decide +kernel
theorem dL_told_46 : decode cL_told 46 = .ok (.goto (-21), 3) := by decide +kernel
theorem dL_told_49 : decode cL_told 49 = .ok (.iconst 0, 1) := by decide +kernel
theorem dL_told_50 : decode cL_told 50 = .ok (.istore 4, 2) := by decide +kernel
theorem dL_told_52 : decode cL_told 52 = .ok (.iload 4, 2) := by decide +kernel
theorem dL_told_54 : decode cL_told 54 = .ok (.aload_n 1, 1) := by decide +kernel
theorem dL_told_55 : decode cL_told 55 = .ok (.arraylength, 1) := by decide +kernel
theorem dL_told_56 : decode cL_told 56 = .ok (.if_icmp .ge 57, 3) := by decide +kernel
theorem dL_told_59 : decode cL_told 59 = .ok (.aload_n 2, 1) := by decide +kernel
theorem dL_told_60 : decode cL_told 60 = .ok (.aload_n 1, 1) := by decide +kernel
theorem dL_told_61 : decode cL_told 61 = .ok (.iload 4, 2) := by decide +kernel
theorem dL_told_63 : decode cL_told 63 = .ok (.aaload, 1) := by decide +kernel
theorem dL_told_64 : decode cL_told 64 = .ok (.iconst 0, 1) := by decide +kernel
theorem dL_told_65 : decode cL_told 65 = .ok (.iaload, 1) := by decide +kernel
theorem dL_told_66 : decode cL_told 66 = .ok (.aload_n 1, 1) := by decide +kernel
theorem dL_told_67 : decode cL_told 67 = .ok (.iload 4, 2) := by decide +kernel
theorem dL_told_69 : decode cL_told 69 = .ok (.aaload, 1) := by decide +kernel
theorem dL_told_70 : decode cL_told 70 = .ok (.iconst 4, 1) := by decide +kernel
theorem dL_told_71 : decode cL_told 71 = .ok (.iaload, 1) := by decide +kernel
theorem dL_told_72 : decode cL_told 72 = .ok (.invokevirtual 50, 3) := by decide +kernel
theorem dL_told_75 : decode cL_told 75 = .ok (.pop, 1) := by decide +kernel
theorem dL_told_76 : decode cL_told 76 = .ok (.iconst 1, 1) := by decide +kernel
theorem dL_told_77 : decode cL_told 77 = .ok (.istore 5, 2) := by decide +kernel
theorem dL_told_79 : decode cL_told 79 = .ok (.iload 5, 2) := by decide +kernel
theorem dL_told_81 : decode cL_told 81 = .ok (.iconst 4, 1) := by decide +kernel
theorem dL_told_82 : decode cL_told 82 = .ok (.if_icmp .ge 25, 3) := by decide +kernel
theorem dL_told_85 : decode cL_told 85 = .ok (.aload_n 2, 1) := by decide +kernel
theorem dL_told_86 : decode cL_told 86 = .ok (.iload 4, 2) := by decide +kernel
theorem dL_told_88 : decode cL_told 88 = .ok (.iload 5, 2) := by decide +kernel
theorem dL_told_90 : decode cL_told 90 = .ok (.aload_n 1, 1) := by decide +kernel
theorem dL_told_91 : decode cL_told 91 = .ok (.iload 4, 2) := by decide +kernel
theorem dL_told_93 : decode cL_told 93 = .ok (.aaload, 1) := by decide +kernel
theorem dL_told_94 : decode cL_told 94 = .ok (.iload 5, 2) := by decide +kernel
theorem dL_told_96 : decode cL_told 96 = .ok (.iaload, 1) := by decide +kernel
theorem dL_told_97 : decode cL_told 97 = .ok (.invokevirtual 53, 3) := by decide +kernel
theorem dL_told_100 : decode cL_told 100 = .ok (.pop, 1) := by decide +kernel
theorem dL_told_101 : decode cL_told 101 = .ok (.iinc 5 1, 3) := by decide +kernel
theorem dL_told_104 : decode cL_told 104 = .ok (.goto (-25), 3) := by decide +kernel
theorem dL_told_107 : decode cL_told 107 = .ok (.iinc 4 1, 3) := by decide +kernel
theorem dL_told_110 : decode cL_told 110 = .ok (.goto (-58), 3) := by decide +kernel
theorem dL_told_113 : decode cL_told 113 = .ok (.aload_n 2, 1) := by decide +kernel
theorem dL_told_114 : decode cL_told 114 = .ok (.areturn, 1) := by decide +kernel
set_option maxRecDepth 20000 in
theorem ggL_law_L_rowOf : GoodIn wsL_law wsL_rowOf := goodIn_r _ [4, 0, 5, 6, 7, 3, 8, 9, 10, 11, 12, 13, 14, 15, 16, 17, 18, 19, 20, 21, 22] (by decide +kernel) (by decide +kernel)
set_option maxRecDepth 20000 in
theorem gL_law_L_rowOf : GoodIn wsL_law (va_wsS RL 57 yL_rowOf wsL_rowOf) := goodIn_app (goodIn_of _ (by decide +kernel)) ggL_law_L_rowOf
set_option maxRecDepth 20000 in
theorem ggL_law_L_told : GoodIn wsL_law wsL_told := goodIn_ca (goodIn_ca (goodIn_ca (goodIn_r _ [25, 26, 27, 28, 29, 30, 31, 32, 33, 34, 35, 36, 0, 37, 38, 39, 40, 41, 42, 3, 43, 6, 7, 8, 9, 10, 11, 12, 13, 44, 45, 46, 47, 48, 49, 50, 51, 52, 53, 54, 55, 56, 57, 58, 59, 60, 61, 62, 63, 64, 65, 66, 67, 68, 69, 70, 71, 72, 73, 74, 75, 76, 77, 78, 79, 80, 81, 82, 83, 84, 85, 86, 87, 88, 89, 90, 91, 92, 93, 94, 95, 261, 262, 263, 264, 265, 266] (by decide +kernel) (by decide +kernel)) (goodIn_sub (fun _ h => List.mem_append_left _ (List.mem_append_left _ (List.mem_append_right _ h))) (by decide +kernel))) (goodIn_sub (fun _ h => List.mem_append_left _ (List.mem_append_right _ h)) (by decide +kernel))) (goodIn_sub (fun _ h => List.mem_append_right _ h) (by decide +kernel))
set_option maxRecDepth 20000 in
theorem gL_law_L_told : GoodIn wsL_law (va_wsS RL 61 yL_told wsL_told) := goodIn_app (goodIn_of _ (by decide +kernel)) ggL_law_L_told
set_option maxRecDepth 20000 in
theorem ggL_law_L_cell : GoodIn wsL_law wsL_cell := goodIn_r _ [8, 9] (by decide +kernel) (by decide +kernel)
set_option maxRecDepth 20000 in
theorem gL_law_L_cell : GoodIn wsL_law (va_wsS RL 21 yL_cell wsL_cell) := goodIn_app (goodIn_of _ (by decide +kernel)) ggL_law_L_cell
set_option maxRecDepth 20000 in
theorem ggL_law_L_below : GoodIn wsL_law wsL_below := goodIn_r _ [12, 13] (by decide +kernel) (by decide +kernel)
set_option maxRecDepth 20000 in
theorem gL_law_L_below : GoodIn wsL_law (va_wsS RL 25 yL_below wsL_below) := goodIn_app (goodIn_of _ (by decide +kernel)) ggL_law_L_below
set_option maxRecDepth 20000 in
theorem ggL_law_X0_digest : GoodIn wsL_law wsX0_digest := goodIn_r _ [99, 100, 101, 39, 35, 102, 103, 104, 28, 105, 36, 106, 107, 108, 109, 85, 86, 87, 88, 110, 111, 112, 113, 38, 114, 115, 116, 117, 118, 119, 120, 121, 76, 37, 122, 123, 124, 125, 126, 127, 128, 129, 130, 131, 132, 133, 134, 135, 136, 137, 138, 139, 140, 141, 142, 143, 144, 145, 146, 147, 148, 149, 150, 151, 152, 153, 154, 155, 156, 157, 158, 159, 160, 161, 162, 163, 164, 165, 166, 167, 168, 169, 170, 171, 172, 173, 174, 175, 176, 177, 178, 179, 180, 181, 182, 183, 184, 185, 186, 71, 72, 187, 188, 189, 190, 191, 192, 193, 194, 195, 196, 197, 40, 261, 262, 263, 264, 265, 266] (by decide +kernel) (by decide +kernel)
set_option maxRecDepth 20000 in
theorem gL_law_X0_digest : GoodIn wsL_law (wsV RL 65 RX0 yX0_digest wsX0_digest) := goodIn_app (goodIn_of _ (by decide +kernel)) ggL_law_X0_digest
set_option maxRecDepth 20000 in
theorem ggL_law_X0_would : GoodIn wsL_law wsX0_would := goodIn_ca (goodIn_ca (goodIn_r _ [201, 55, 56, 57, 58, 85, 86, 87, 28, 88, 35, 89, 90, 91, 68, 69, 70, 71, 72, 92, 93, 94, 95, 38, 102, 103, 104, 105, 36, 106, 107, 108, 109, 110, 111, 112, 113, 114, 115, 116, 117, 118, 119, 120, 121, 76, 37, 122, 123, 124, 125, 126, 127, 128, 129, 130, 131, 132, 133, 134, 135, 136, 137, 138, 139, 140, 141, 142, 143, 144, 145, 146, 147, 148, 149, 150, 151, 152, 153, 154, 155, 156, 157, 158, 159, 160, 161, 162, 163, 164, 165, 166, 167, 168, 169, 170, 171, 172, 173, 174, 175, 176, 177, 178, 39, 261, 262, 263, 264, 265, 266] (by decide +kernel) (by decide +kernel)) (goodIn_sub (fun _ h => List.mem_append_left _ (List.mem_append_left _ (List.mem_append_right _ h))) (by decide +kernel))) (goodIn_sub (fun _ h => List.mem_append_left _ (List.mem_append_right _ h)) (by decide +kernel))
set_option maxRecDepth 20000 in
theorem gL_law_X0_would : GoodIn wsL_law (wsV RL 69 RX0 yX0_would wsX0_would) := goodIn_app (goodIn_of _ (by decide +kernel)) ggL_law_X0_would
set_option maxRecDepth 20000 in
theorem ggL_law_X0_best : GoodIn wsL_law wsX0_best := goodIn_ca (goodIn_r _ [205, 55, 56, 85, 86, 87, 28, 88, 35, 206, 207, 208, 209, 40, 110, 111, 112, 113, 38, 183, 184, 185, 186, 71, 72, 187, 188, 131, 189, 190, 191, 192, 193, 76, 37, 122, 123, 124, 194, 195, 196, 197, 118, 119, 120, 121, 210, 211, 212, 213, 77, 78, 79, 80, 175, 176, 177, 178, 39, 106, 107, 108, 109, 114, 115, 116, 117, 125, 126, 127, 128, 129, 130, 132, 133, 134, 135, 136, 141, 142, 143, 144, 145, 146, 147, 148, 149, 150, 151, 152, 153, 154, 155, 156, 157, 158, 159, 160, 36, 161, 162, 163, 164, 165, 166, 167, 168, 169, 170, 171, 172, 173, 174, 261, 262, 263, 264, 265, 266] (by decide +kernel) (by decide +kernel)) (goodIn_sub (fun _ h => List.mem_append_left _ (List.mem_append_left _ (List.mem_append_right _ h))) (by decide +kernel))
set_option maxRecDepth 20000 in
theorem gL_law_X0_best : GoodIn wsL_law (wsV RL 72 RX0 yX0_best wsX0_best) := goodIn_app (goodIn_of _ (by decide +kernel)) ggL_law_X0_best
set_option maxRecDepth 20000 in
theorem ggL_law_X0_ways : GoodIn wsL_law wsX0_ways := goodIn_ca (goodIn_r _ [217, 55, 56, 85, 86, 87, 28, 88, 35, 183, 184, 185, 186, 71, 72, 187, 188, 131, 189, 190, 191, 192, 193, 76, 37, 110, 111, 112, 113, 38, 122, 123, 124, 194, 195, 196, 197, 40, 118, 119, 120, 121, 261, 262, 263, 264, 265, 266] (by decide +kernel) (by decide +kernel)) (goodIn_sub (fun _ h => List.mem_append_left _ (List.mem_append_left _ (List.mem_append_right _ h))) (by decide +kernel))
set_option maxRecDepth 20000 in
theorem gL_law_X0_ways : GoodIn wsL_law (wsV RL 76 RX0 yX0_ways wsX0_ways) := goodIn_app (goodIn_of _ (by decide +kernel)) ggL_law_X0_ways
set_option maxRecDepth 20000 in
theorem ggL_law_X0_advise : GoodIn wsL_law wsX0_advise := goodIn_ca (goodIn_r _ [221, 55, 56, 37, 76, 85, 86, 87, 28, 88, 35, 110, 111, 112, 113, 38, 206, 207, 208, 209, 40, 183, 184, 185, 186, 71, 72, 187, 188, 131, 189, 190, 191, 192, 193, 122, 123, 124, 194, 195, 196, 197, 118, 119, 120, 121, 210, 211, 212, 213, 77, 78, 79, 80, 175, 176, 177, 178, 39, 106, 107, 108, 109, 114, 115, 116, 117, 125, 126, 127, 128, 129, 130, 132, 133, 134, 135, 136, 141, 142, 143, 144, 145, 146, 147, 148, 149, 150, 151, 152, 153, 154, 155, 156, 157, 158, 159, 160, 36, 161, 162, 163, 164, 165, 166, 167, 168, 169, 170, 171, 172, 173, 174, 261, 262, 263, 264, 265, 266] (by decide +kernel) (by decide +kernel)) (goodIn_sub (fun _ h => List.mem_append_left _ (List.mem_append_left _ (List.mem_append_right _ h))) (by decide +kernel))
set_option maxRecDepth 20000 in
theorem gL_law_X0_advise : GoodIn wsL_law (wsV RL 79 RX0 yX0_advise wsX0_advise) := goodIn_app (goodIn_of _ (by decide +kernel)) ggL_law_X0_advise
set_option maxRecDepth 20000 in
theorem ggL_law_X0_told : GoodIn wsL_law wsX0_told := goodIn_ca (goodIn_r _ [225, 55, 56, 85, 86, 87, 28, 88, 35, 179, 180, 181, 182, 37, 110, 111, 112, 113, 38, 106, 107, 108, 109, 114, 115, 116, 117, 118, 119, 120, 121, 76, 122, 123, 124, 125, 126, 127, 128, 129, 130, 131, 132, 133, 134, 135, 136, 175, 176, 177, 178, 39, 141, 142, 143, 144, 145, 146, 147, 148, 149, 150, 151, 152, 153, 154, 155, 156, 157, 158, 159, 160, 36, 161, 162, 163, 164, 165, 166, 167, 168, 169, 170, 171, 172, 173, 174, 261, 262, 263, 264, 265, 266] (by decide +kernel) (by decide +kernel)) (goodIn_sub (fun _ h => List.mem_append_left _ (List.mem_append_left _ (List.mem_append_right _ h))) (by decide +kernel))
set_option maxRecDepth 20000 in
theorem gL_law_X0_told : GoodIn wsL_law (wsV RL 82 RX0 yX0_told wsX0_told) := goodIn_app (goodIn_of _ (by decide +kernel)) ggL_law_X0_told
set_option maxRecDepth 20000 in
theorem ggL_law_X0_put : GoodIn wsL_law wsX0_put := goodIn_ca (goodIn_ca (goodIn_r _ [84, 55, 56, 57, 58, 85, 86, 87, 28, 88, 35, 89, 90, 91, 68, 69, 70, 71, 72, 92, 93, 94, 95, 38, 261, 262, 263, 264, 265, 266] (by decide +kernel) (by decide +kernel)) (goodIn_sub (fun _ h => List.mem_append_left _ (List.mem_append_left _ (List.mem_append_right _ h))) (by decide +kernel))) (goodIn_sub (fun _ h => List.mem_append_left _ (List.mem_append_right _ h)) (by decide +kernel))
set_option maxRecDepth 20000 in
theorem gL_law_X0_put : GoodIn wsL_law (wsV RL 53 RX0 yX0_put wsX0_put) := goodIn_app (goodIn_of _ (by decide +kernel)) ggL_law_X0_put
set_option maxRecDepth 20000 in
theorem ggL_law_X0_count : GoodIn wsL_law wsX0_count := goodIn_ca (goodIn_r _ [229, 55, 56, 102, 103, 104, 28, 105, 36, 35, 106, 107, 108, 109, 85, 86, 87, 88, 110, 111, 112, 113, 38, 114, 115, 116, 117, 118, 119, 120, 121, 76, 37, 122, 123, 124, 125, 126, 127, 128, 129, 130, 131, 132, 133, 134, 135, 136, 137, 138, 139, 140, 141, 142, 143, 144, 145, 146, 147, 148, 149, 150, 151, 152, 153, 154, 155, 156, 157, 158, 159, 160, 161, 162, 163, 164, 165, 166, 167, 168, 169, 170, 171, 172, 173, 174, 175, 176, 177, 178, 39, 261, 262, 263, 264, 265, 266] (by decide +kernel) (by decide +kernel)) (goodIn_sub (fun _ h => List.mem_append_left _ (List.mem_append_left _ (List.mem_append_right _ h))) (by decide +kernel))
set_option maxRecDepth 20000 in
theorem gL_law_X0_count : GoodIn wsL_law (wsV RL 84 RX0 yX0_count wsX0_count) := goodIn_app (goodIn_of _ (by decide +kernel)) ggL_law_X0_count
set_option maxRecDepth 20000 in
theorem ggL_law_X0_note : GoodIn wsL_law wsX0_note := goodIn_ca (goodIn_r _ [233, 55, 56, 85, 86, 87, 28, 88, 35, 110, 111, 112, 113, 38, 261, 262, 263, 264, 265, 266] (by decide +kernel) (by decide +kernel)) (goodIn_sub (fun _ h => List.mem_append_left _ (List.mem_append_left _ (List.mem_append_right _ h))) (by decide +kernel))
set_option maxRecDepth 20000 in
theorem gL_law_X0_note : GoodIn wsL_law (wsV RL 87 RX0 yX0_note wsX0_note) := goodIn_app (goodIn_of _ (by decide +kernel)) ggL_law_X0_note
set_option maxRecDepth 20000 in
theorem ggL_law_X0_setBass : GoodIn wsL_law wsX0_setBass := goodIn_ca (goodIn_ca (goodIn_r _ [237, 55, 56, 57, 58, 85, 86, 87, 28, 88, 35, 68, 69, 70, 71, 72, 92, 93, 94, 95, 38, 261, 262, 263, 264, 265, 266] (by decide +kernel) (by decide +kernel)) (goodIn_sub (fun _ h => List.mem_append_left _ (List.mem_append_left _ (List.mem_append_right _ h))) (by decide +kernel))) (goodIn_sub (fun _ h => List.mem_append_left _ (List.mem_append_right _ h)) (by decide +kernel))
set_option maxRecDepth 20000 in
theorem gL_law_X0_setBass : GoodIn wsL_law (wsV RL 90 RX0 yX0_setBass wsX0_setBass) := goodIn_app (goodIn_of _ (by decide +kernel)) ggL_law_X0_setBass
set_option maxRecDepth 20000 in
theorem ggL_law_X0_setFigure : GoodIn wsL_law wsX0_setFigure := goodIn_ca (goodIn_ca (goodIn_r _ [241, 55, 56, 57, 58, 37, 85, 86, 87, 28, 88, 35, 73, 74, 75, 76, 261, 262, 263, 264, 265, 266] (by decide +kernel) (by decide +kernel)) (goodIn_sub (fun _ h => List.mem_append_left _ (List.mem_append_left _ (List.mem_append_right _ h))) (by decide +kernel))) (goodIn_sub (fun _ h => List.mem_append_left _ (List.mem_append_right _ h)) (by decide +kernel))
set_option maxRecDepth 20000 in
theorem gL_law_X0_setFigure : GoodIn wsL_law (wsV RL 93 RX0 yX0_setFigure wsX0_setFigure) := goodIn_app (goodIn_of _ (by decide +kernel)) ggL_law_X0_setFigure
set_option maxRecDepth 20000 in
theorem ggL_law_X0_lead : GoodIn wsL_law wsX0_lead := goodIn_ca (goodIn_ca (goodIn_r _ [245, 55, 56, 66, 67, 85, 86, 87, 28, 88, 35, 206, 207, 208, 209, 40, 110, 111, 112, 113, 38, 183, 184, 185, 186, 71, 72, 187, 188, 131, 189, 190, 191, 192, 193, 76, 37, 122, 123, 124, 194, 195, 196, 197, 118, 119, 120, 121, 210, 211, 212, 213, 77, 78, 79, 80, 175, 176, 177, 178, 39, 106, 107, 108, 109, 114, 115, 116, 117, 125, 126, 127, 128, 129, 130, 132, 133, 134, 135, 136, 141, 142, 143, 144, 145, 146, 147, 148, 149, 150, 151, 152, 153, 154, 155, 156, 157, 158, 159, 160, 36, 161, 162, 163, 164, 165, 166, 167, 168, 169, 170, 171, 172, 173, 174, 261, 262, 263, 264, 265, 266] (by decide +kernel) (by decide +kernel)) (goodIn_sub (fun _ h => List.mem_append_left _ (List.mem_append_left _ (List.mem_append_right _ h))) (by decide +kernel))) (goodIn_sub (fun _ h => List.mem_append_right _ h) (by decide +kernel))
set_option maxRecDepth 20000 in
theorem gL_law_X0_lead : GoodIn wsL_law (wsV RL 96 RX0 yX0_lead wsX0_lead) := goodIn_app (goodIn_of _ (by decide +kernel)) ggL_law_X0_lead
set_option maxRecDepth 20000 in
theorem ggL_law_X0_faults : GoodIn wsL_law wsX0_faults := goodIn_ca (goodIn_r _ [249, 55, 56, 85, 86, 87, 28, 88, 35, 59, 60, 61, 141, 142, 143, 144, 133, 134, 135, 136, 106, 107, 108, 109, 110, 111, 112, 113, 38, 145, 146, 147, 148, 149, 150, 151, 152, 153, 154, 155, 156, 157, 158, 159, 160, 36, 161, 162, 163, 164, 165, 166, 167, 168, 169, 170, 171, 172, 173, 174, 37, 122, 123, 124, 261, 262, 263, 264, 265, 266] (by decide +kernel) (by decide +kernel)) (goodIn_sub (fun _ h => List.mem_append_left _ (List.mem_append_left _ (List.mem_append_right _ h))) (by decide +kernel))
set_option maxRecDepth 20000 in
theorem gL_law_X0_faults : GoodIn wsL_law (wsV RL 99 RX0 yX0_faults wsX0_faults) := goodIn_app (goodIn_of _ (by decide +kernel)) ggL_law_X0_faults
set_option maxRecDepth 20000 in
theorem ggL_law_X0_fits : GoodIn wsL_law wsX0_fits := goodIn_ca (goodIn_ca (goodIn_r _ [253, 55, 56, 57, 58, 85, 86, 87, 28, 88, 35, 89, 90, 91, 254, 255, 256, 68, 69, 70, 71, 72, 190, 191, 192, 193, 76, 37, 110, 111, 112, 113, 38, 122, 123, 124, 261, 262, 263, 264, 265, 266] (by decide +kernel) (by decide +kernel)) (goodIn_sub (fun _ h => List.mem_append_left _ (List.mem_append_left _ (List.mem_append_right _ h))) (by decide +kernel))) (goodIn_sub (fun _ h => List.mem_append_left _ (List.mem_append_right _ h)) (by decide +kernel))
set_option maxRecDepth 20000 in
theorem gL_law_X0_fits : GoodIn wsL_law (wsV RL 102 RX0 yX0_fits wsX0_fits) := goodIn_app (goodIn_of _ (by decide +kernel)) ggL_law_X0_fits
set_option maxRecDepth 20000 in
theorem ggL_law_X0_mean : GoodIn wsL_law wsX0_mean := goodIn_r _ [260, 102, 103, 104, 28, 105, 36, 35, 106, 107, 108, 109, 85, 86, 87, 88, 110, 111, 112, 113, 38, 114, 115, 116, 117, 118, 119, 120, 121, 76, 37, 122, 123, 124, 125, 126, 127, 128, 129, 130, 131, 132, 133, 134, 135, 136, 137, 138, 139, 140, 141, 142, 143, 144, 145, 146, 147, 148, 149, 150, 151, 152, 153, 154, 155, 156, 157, 158, 159, 160, 161, 162, 163, 164, 165, 166, 167, 168, 169, 170, 171, 172, 173, 174, 175, 176, 177, 178, 39, 261, 262, 263, 264, 265, 266] (by decide +kernel) (by decide +kernel)
set_option maxRecDepth 20000 in
theorem gL_law_X0_mean : GoodIn wsL_law (wsV RL 105 RX0 yX0_mean wsX0_mean) := goodIn_app (goodIn_of _ (by decide +kernel)) ggL_law_X0_mean
theorem dL_law_0 : decode cL_law 0 = .ok (.aload_n 0, 1) := by decide +kernel
theorem dL_law_1 : decode cL_law 1 = .ok (.invokestatic 57, 3) := by decide +kernel
theorem dL_law_4 : decode cL_law 4 = .ok (.astore_n 1, 1) := by decide +kernel
theorem dL_law_5 : decode cL_law 5 = .ok (.aload_n 0, 1) := by decide +kernel
theorem dL_law_6 : decode cL_law 6 = .ok (.aload_n 1, 1) := by decide +kernel
theorem dL_law_7 : decode cL_law 7 = .ok (.invokestatic 61, 3) := by decide +kernel
theorem dL_law_10 : decode cL_law 10 = .ok (.astore_n 2, 1) := by decide +kernel
theorem dL_law_11 : decode cL_law 11 = .ok (.aload_n 1, 1) := by decide +kernel
theorem dL_law_12 : decode cL_law 12 = .ok (.arraylength, 1) := by decide +kernel
theorem dL_law_13 : decode cL_law 13 = .ok (.istore_n 3, 1) := by decide +kernel
theorem dL_law_14 : decode cL_law 14 = .ok (.iconst 0, 1) := by decide +kernel
theorem dL_law_15 : decode cL_law 15 = .ok (.istore 4, 2) := by decide +kernel
theorem dL_law_17 : decode cL_law 17 = .ok (.iload 4, 2) := by decide +kernel
theorem dL_law_19 : decode cL_law 19 = .ok (.bipush 16, 2) := by decide +kernel
theorem dL_law_21 : decode cL_law 21 = .ok (.if_icmp .ge 693, 3) := by decide +kernel
theorem dL_law_24 : decode cL_law 24 = .ok (.aload_n 0, 1) := by decide +kernel
theorem dL_law_25 : decode cL_law 25 = .ok (.iload 4, 2) := by decide +kernel
theorem dL_law_27 : decode cL_law 27 = .ok (.invokestatic 21, 3) := by decide +kernel
theorem dL_law_30 : decode cL_law 30 = .ok (.istore 5, 2) := by decide +kernel
theorem dL_law_32 : decode cL_law 32 = .ok (.iload 5, 2) := by decide +kernel
theorem dL_law_34 : decode cL_law 34 = .ok (.iconst 2, 1) := by decide +kernel
theorem dL_law_35 : decode cL_law 35 = .ok (.ishr, 1) := by decide +kernel
theorem dL_law_36 : decode cL_law 36 = .ok (.iload_n 3, 1) := by decide +kernel
theorem dL_law_37 : decode cL_law 37 = .ok (.invokestatic 25, 3) := by decide +kernel
theorem dL_law_40 : decode cL_law 40 = .ok (.istore 6, 2) := by decide +kernel
theorem dL_law_42 : decode cL_law 42 = .ok (.iconst 1, 1) := by decide +kernel
theorem dL_law_43 : decode cL_law 43 = .ok (.iload 5, 2) := by decide +kernel
theorem dL_law_45 : decode cL_law 45 = .ok (.iconst 4, 1) := by decide +kernel
theorem dL_law_46 : decode cL_law 46 = .ok (.ishr, 1) := by decide +kernel
theorem dL_law_47 : decode cL_law 47 = .ok (.iconst 3, 1) := by decide +kernel
theorem dL_law_48 : decode cL_law 48 = .ok (.invokestatic 25, 3) := by decide +kernel
theorem dL_law_51 : decode cL_law 51 = .ok (.iadd, 1) := by decide +kernel
theorem dL_law_52 : decode cL_law 52 = .ok (.istore 7, 2) := by decide +kernel
theorem dL_law_54 : decode cL_law 54 = .ok (.bipush 12, 2) := by decide +kernel
theorem dL_law_56 : decode cL_law 56 = .ok (.iload 5, 2) := by decide +kernel
theorem dL_law_58 : decode cL_law 58 = .ok (.bipush 6, 2) := by decide +kernel
theorem dL_law_60 : decode cL_law 60 = .ok (.ishr, 1) := by decide +kernel
theorem dL_law_61 : decode cL_law 61 = .ok (.iconst 3, 1) := by decide +kernel
theorem dL_law_62 : decode cL_law 62 = .ok (.invokestatic 25, 3) := by decide +kernel
theorem dL_law_65 : decode cL_law 65 = .ok (.iadd, 1) := by decide +kernel
theorem dL_law_66 : decode cL_law 66 = .ok (.istore 8, 2) := by decide +kernel
theorem dL_law_68 : decode cL_law 68 = .ok (.aload_n 2, 1) := by decide +kernel
theorem dL_law_69 : decode cL_law 69 = .ok (.invokevirtual 65, 3) := by decide +kernel
theorem dL_law_72 : decode cL_law 72 = .ok (.lstore 9, 2) := by decide +kernel
theorem dL_law_74 : decode cL_law 74 = .ok (.aload_n 2, 1) := by decide +kernel
theorem dL_law_75 : decode cL_law 75 = .ok (.iload 6, 2) := by decide +kernel
theorem dL_law_77 : decode cL_law 77 = .ok (.iload 7, 2) := by decide +kernel
theorem dL_law_79 : decode cL_law 79 = .ok (.iload 8, 2) := by decide +kernel
theorem dL_law_81 : decode cL_law 81 = .ok (.invokevirtual 69, 3) := by decide +kernel
theorem dL_law_84 : decode cL_law 84 = .ok (.istore 11, 2) := by decide +kernel
theorem dL_law_86 : decode cL_law 86 = .ok (.aload_n 2, 1) := by decide +kernel
theorem dL_law_87 : decode cL_law 87 = .ok (.iload 6, 2) := by decide +kernel
theorem dL_law_89 : decode cL_law 89 = .ok (.invokevirtual 72, 3) := by decide +kernel
theorem dL_law_92 : decode cL_law 92 = .ok (.istore 12, 2) := by decide +kernel
theorem dL_law_94 : decode cL_law 94 = .ok (.aload_n 2, 1) := by decide +kernel
theorem dL_law_95 : decode cL_law 95 = .ok (.iload 6, 2) := by decide +kernel
theorem dL_law_97 : decode cL_law 97 = .ok (.invokevirtual 76, 3) := by decide +kernel
theorem dL_law_100 : decode cL_law 100 = .ok (.istore 13, 2) := by decide +kernel
theorem dL_law_102 : decode cL_law 102 = .ok (.aload_n 2, 1) := by decide +kernel
theorem dL_law_103 : decode cL_law 103 = .ok (.iload 6, 2) := by decide +kernel
theorem dL_law_105 : decode cL_law 105 = .ok (.invokevirtual 79, 3) := by decide +kernel
theorem dL_law_108 : decode cL_law 108 = .ok (.istore 14, 2) := by decide +kernel
theorem dL_law_110 : decode cL_law 110 = .ok (.aload_n 2, 1) := by decide +kernel
theorem dL_law_111 : decode cL_law 111 = .ok (.invokevirtual 65, 3) := by decide +kernel
theorem dL_law_114 : decode cL_law 114 = .ok (.lload 9, 2) := by decide +kernel
theorem dL_law_116 : decode cL_law 116 = .ok (.lcmp, 1) := by decide +kernel
theorem dL_law_117 : decode cL_law 117 = .ok (.ifCond .ne 38, 3) := by decide +kernel
theorem dL_law_120 : decode cL_law 120 = .ok (.iload 12, 2) := by decide +kernel
theorem dL_law_122 : decode cL_law 122 = .ok (.ifCond .ge 7, 3) := by decide +kernel
theorem dL_law_125 : decode cL_law 125 = .ok (.iconst 1, 1) := by decide +kernel
theorem dL_law_126 : decode cL_law 126 = .ok (.goto 4, 3) := by decide +kernel
theorem dL_law_129 : decode cL_law 129 = .ok (.iconst 0, 1) := by decide +kernel
theorem dL_law_130 : decode cL_law 130 = .ok (.iload 13, 2) := by decide +kernel
theorem dL_law_132 : decode cL_law 132 = .ok (.ifCond .ne 7, 3) := by decide +kernel
theorem dL_law_135 : decode cL_law 135 = .ok (.iconst 1, 1) := by decide +kernel
theorem dL_law_136 : decode cL_law 136 = .ok (.goto 4, 3) := by decide +kernel
theorem dL_law_139 : decode cL_law 139 = .ok (.iconst 0, 1) := by decide +kernel
theorem dL_law_140 : decode cL_law 140 = .ok (.if_icmp .ne 15, 3) := by decide +kernel
theorem dL_law_143 : decode cL_law 143 = .ok (.iload 14, 2) := by decide +kernel
theorem dL_law_145 : decode cL_law 145 = .ok (.iconst (-1), 1) := by decide +kernel
theorem dL_law_146 : decode cL_law 146 = .ok (.if_icmp .lt 9, 3) := by decide +kernel
theorem dL_law_149 : decode cL_law 149 = .ok (.iload 14, 2) := by decide +kernel
theorem dL_law_151 : decode cL_law 151 = .ok (.iconst 5, 1) := by decide +kernel
theorem dL_law_152 : decode cL_law 152 = .ok (.if_icmp .le 5, 3) := by decide +kernel
theorem dL_law_155 : decode cL_law 155 = .ok (.iconst 0, 1) := by decide +kernel
theorem dL_law_156 : decode cL_law 156 = .ok (.ireturn, 1) := by decide +kernel
theorem dL_law_157 : decode cL_law 157 = .ok (.aload_n 2, 1) := by decide +kernel
theorem dL_law_158 : decode cL_law 158 = .ok (.iload 6, 2) := by decide +kernel
theorem dL_law_160 : decode cL_law 160 = .ok (.iconst 5, 1) := by decide +kernel
theorem dL_law_161 : decode cL_law 161 = .ok (.invokevirtual 82, 3) := by decide +kernel
theorem dL_law_164 : decode cL_law 164 = .ok (.iload 6, 2) := by decide +kernel
theorem dL_law_166 : decode cL_law 166 = .ok (.iconst 1, 1) := by decide +kernel
theorem dL_law_167 : decode cL_law 167 = .ok (.iadd, 1) := by decide +kernel
theorem dL_law_168 : decode cL_law 168 = .ok (.iload_n 3, 1) := by decide +kernel
theorem dL_law_169 : decode cL_law 169 = .ok (.if_icmp .ge 15, 3) := by decide +kernel
theorem dL_law_172 : decode cL_law 172 = .ok (.aload_n 2, 1) := by decide +kernel
theorem dL_law_173 : decode cL_law 173 = .ok (.iload 6, 2) := by decide +kernel
theorem dL_law_175 : decode cL_law 175 = .ok (.iconst 1, 1) := by decide +kernel
theorem dL_law_176 : decode cL_law 176 = .ok (.iadd, 1) := by decide +kernel
theorem dL_law_177 : decode cL_law 177 = .ok (.iconst 5, 1) := by decide +kernel
theorem dL_law_178 : decode cL_law 178 = .ok (.invokevirtual 82, 3) := by decide +kernel
theorem dL_law_181 : decode cL_law 181 = .ok (.goto 4, 3) := by decide +kernel
theorem dL_law_184 : decode cL_law 184 = .ok (.iconst 0, 1) := by decide +kernel
theorem dL_law_185 : decode cL_law 185 = .ok (.iadd, 1) := by decide +kernel
theorem dL_law_186 : decode cL_law 186 = .ok (.istore 15, 2) := by decide +kernel
theorem dL_law_188 : decode cL_law 188 = .ok (.aload_n 2, 1) := by decide +kernel
theorem dL_law_189 : decode cL_law 189 = .ok (.iload 6, 2) := by decide +kernel
theorem dL_law_191 : decode cL_law 191 = .ok (.iconst 3, 1) := by decide +kernel
theorem dL_law_192 : decode cL_law 192 = .ok (.invokevirtual 82, 3) := by decide +kernel
theorem dL_law_195 : decode cL_law 195 = .ok (.iconst 1, 1) := by decide +kernel
theorem dL_law_196 : decode cL_law 196 = .ok (.if_icmp .ne 7, 3) := by decide +kernel
theorem dL_law_199 : decode cL_law 199 = .ok (.iconst 1, 1) := by decide +kernel
theorem dL_law_200 : decode cL_law 200 = .ok (.goto 4, 3) := by decide +kernel
theorem dL_law_203 : decode cL_law 203 = .ok (.iconst 0, 1) := by decide +kernel
theorem dL_law_204 : decode cL_law 204 = .ok (.istore 16, 2) := by decide +kernel
theorem dL_law_206 : decode cL_law 206 = .ok (.iload 5, 2) := by decide +kernel
theorem dL_law_208 : decode cL_law 208 = .ok (.iconst 5, 1) := by decide +kernel
theorem dL_law_209 : decode cL_law 209 = .ok (.invokestatic 25, 3) := by decide +kernel
theorem dL_law_212 : decode cL_law 212 = .ok (.tableswitch 102 0 2 #[28, 64, 83], 28) := by decide +kernel
theorem dL_law_240 : decode cL_law 240 = .ok (.aload_n 2, 1) := by decide +kernel
theorem dL_law_241 : decode cL_law 241 = .ok (.iload 6, 2) := by decide +kernel
theorem dL_law_243 : decode cL_law 243 = .ok (.iload 7, 2) := by decide +kernel
theorem dL_law_245 : decode cL_law 245 = .ok (.iload 8, 2) := by decide +kernel
theorem dL_law_247 : decode cL_law 247 = .ok (.invokevirtual 53, 3) := by decide +kernel
theorem dL_law_250 : decode cL_law 250 = .ok (.pop, 1) := by decide +kernel
theorem dL_law_251 : decode cL_law 251 = .ok (.aload_n 2, 1) := by decide +kernel
theorem dL_law_252 : decode cL_law 252 = .ok (.iconst 5, 1) := by decide +kernel
theorem dL_law_253 : decode cL_law 253 = .ok (.invokevirtual 84, 3) := by decide +kernel
theorem dL_law_256 : decode cL_law 256 = .ok (.iload 11, 2) := by decide +kernel
theorem dL_law_258 : decode cL_law 258 = .ok (.if_icmp .ne 16, 3) := by decide +kernel
theorem dL_law_261 : decode cL_law 261 = .ok (.aload_n 2, 1) := by decide +kernel
theorem dL_law_262 : decode cL_law 262 = .ok (.iload 6, 2) := by decide +kernel
theorem dL_law_264 : decode cL_law 264 = .ok (.iload 7, 2) := by decide +kernel
theorem dL_law_266 : decode cL_law 266 = .ok (.invokevirtual 87, 3) := by decide +kernel
theorem dL_law_269 : decode cL_law 269 = .ok (.iload 8, 2) := by decide +kernel
theorem dL_law_271 : decode cL_law 271 = .ok (.if_icmp .eq 157, 3) := by decide +kernel
theorem dL_law_274 : decode cL_law 274 = .ok (.iconst 0, 1) := by decide +kernel
theorem dL_law_275 : decode cL_law 275 = .ok (.ireturn, 1) := by decide +kernel
theorem dL_law_276 : decode cL_law 276 = .ok (.aload_n 2, 1) := by decide +kernel
theorem dL_law_277 : decode cL_law 277 = .ok (.iload 6, 2) := by decide +kernel
theorem dL_law_279 : decode cL_law 279 = .ok (.iload 5, 2) := by decide +kernel
theorem dL_law_281 : decode cL_law 281 = .ok (.iconst 5, 1) := by decide +kernel
theorem dL_law_282 : decode cL_law 282 = .ok (.ishr, 1) := by decide +kernel
theorem dL_law_283 : decode cL_law 283 = .ok (.bipush 14, 2) := by decide +kernel
theorem dL_law_285 : decode cL_law 285 = .ok (.invokestatic 25, 3) := by decide +kernel
theorem dL_law_288 : decode cL_law 288 = .ok (.invokevirtual 90, 3) := by decide +kernel
theorem dL_law_291 : decode cL_law 291 = .ok (.pop, 1) := by decide +kernel
theorem dL_law_292 : decode cL_law 292 = .ok (.goto 136, 3) := by decide +kernel
theorem dL_law_295 : decode cL_law 295 = .ok (.aload_n 2, 1) := by decide +kernel
theorem dL_law_296 : decode cL_law 296 = .ok (.iload 6, 2) := by decide +kernel
theorem dL_law_298 : decode cL_law 298 = .ok (.iload 5, 2) := by decide +kernel
theorem dL_law_300 : decode cL_law 300 = .ok (.iconst 5, 1) := by decide +kernel
theorem dL_law_301 : decode cL_law 301 = .ok (.ishr, 1) := by decide +kernel
theorem dL_law_302 : decode cL_law 302 = .ok (.bipush 6, 2) := by decide +kernel
theorem dL_law_304 : decode cL_law 304 = .ok (.invokestatic 25, 3) := by decide +kernel
theorem dL_law_307 : decode cL_law 307 = .ok (.invokevirtual 93, 3) := by decide +kernel
theorem dL_law_310 : decode cL_law 310 = .ok (.pop, 1) := by decide +kernel
theorem dL_law_311 : decode cL_law 311 = .ok (.goto 117, 3) := by decide +kernel
theorem dL_law_314 : decode cL_law 314 = .ok (.iload 13, 2) := by decide +kernel
theorem dL_law_316 : decode cL_law 316 = .ok (.ifCond .ne 6, 3) := by decide +kernel
theorem dL_law_319 : decode cL_law 319 = .ok (.goto 109, 3) := by decide +kernel
theorem dL_law_322 : decode cL_law 322 = .ok (.aload_n 2, 1) := by decide +kernel
theorem dL_law_323 : decode cL_law 323 = .ok (.iload 6, 2) := by decide +kernel
theorem dL_law_325 : decode cL_law 325 = .ok (.invokevirtual 96, 3) := by decide +kernel
theorem dL_law_328 : decode cL_law 328 = .ok (.istore 17, 2) := by decide +kernel
theorem dL_law_330 : decode cL_law 330 = .ok (.iload 17, 2) := by decide +kernel
theorem dL_law_332 : decode cL_law 332 = .ok (.iload 6, 2) := by decide +kernel
theorem dL_law_334 : decode cL_law 334 = .ok (.iconst 1, 1) := by decide +kernel
theorem dL_law_335 : decode cL_law 335 = .ok (.iadd, 1) := by decide +kernel
theorem dL_law_336 : decode cL_law 336 = .ok (.iload_n 3, 1) := by decide +kernel
theorem dL_law_337 : decode cL_law 337 = .ok (.if_icmp .ge 15, 3) := by decide +kernel
theorem dL_law_340 : decode cL_law 340 = .ok (.aload_n 2, 1) := by decide +kernel
theorem dL_law_341 : decode cL_law 341 = .ok (.iload 6, 2) := by decide +kernel
theorem dL_law_343 : decode cL_law 343 = .ok (.iconst 1, 1) := by decide +kernel
theorem dL_law_344 : decode cL_law 344 = .ok (.iadd, 1) := by decide +kernel
theorem dL_law_345 : decode cL_law 345 = .ok (.iconst 5, 1) := by decide +kernel
theorem dL_law_346 : decode cL_law 346 = .ok (.invokevirtual 82, 3) := by decide +kernel
theorem dL_law_349 : decode cL_law 349 = .ok (.goto 4, 3) := by decide +kernel
theorem dL_law_352 : decode cL_law 352 = .ok (.iconst 0, 1) := by decide +kernel
theorem dL_law_353 : decode cL_law 353 = .ok (.iadd, 1) := by decide +kernel
theorem dL_law_354 : decode cL_law 354 = .ok (.istore 18, 2) := by decide +kernel
theorem dL_law_356 : decode cL_law 356 = .ok (.aload_n 2, 1) := by decide +kernel
theorem dL_law_357 : decode cL_law 357 = .ok (.iload 6, 2) := by decide +kernel
theorem dL_law_359 : decode cL_law 359 = .ok (.iconst 3, 1) := by decide +kernel
theorem dL_law_360 : decode cL_law 360 = .ok (.invokevirtual 82, 3) := by decide +kernel
theorem dL_law_363 : decode cL_law 363 = .ok (.iconst 1, 1) := by decide +kernel
theorem dL_law_364 : decode cL_law 364 = .ok (.if_icmp .ne 62, 3) := by decide +kernel
theorem dL_law_367 : decode cL_law 367 = .ok (.aload_n 2, 1) := by decide +kernel
theorem dL_law_368 : decode cL_law 368 = .ok (.iload 6, 2) := by decide +kernel
theorem dL_law_370 : decode cL_law 370 = .ok (.iconst 5, 1) := by decide +kernel
theorem dL_law_371 : decode cL_law 371 = .ok (.invokevirtual 82, 3) := by decide +kernel
theorem dL_law_374 : decode cL_law 374 = .ok (.iload 17, 2) := by decide +kernel
theorem dL_law_376 : decode cL_law 376 = .ok (.if_icmp .ne 50, 3) := by decide +kernel
theorem dL_law_379 : decode cL_law 379 = .ok (.iload 16, 2) := by decide +kernel
theorem dL_law_381 : decode cL_law 381 = .ok (.ifCond .eq 10, 3) := by decide +kernel
theorem dL_law_384 : decode cL_law 384 = .ok (.iload 18, 2) := by decide +kernel
theorem dL_law_386 : decode cL_law 386 = .ok (.iload 15, 2) := by decide +kernel
theorem dL_law_388 : decode cL_law 388 = .ok (.if_icmp .gt 38, 3) := by decide +kernel
theorem dL_law_391 : decode cL_law 391 = .ok (.sipush 784, 3) := by decide +kernel
theorem dL_law_394 : decode cL_law 394 = .ok (.aload_n 2, 1) := by decide +kernel
theorem dL_law_395 : decode cL_law 395 = .ok (.iload 6, 2) := by decide +kernel
theorem dL_law_397 : decode cL_law 397 = .ok (.iconst 1, 1) := by decide +kernel
theorem dL_law_398 : decode cL_law 398 = .ok (.invokevirtual 87, 3) := by decide +kernel
theorem dL_law_401 : decode cL_law 401 = .ok (.imul, 1) := by decide +kernel
theorem dL_law_402 : decode cL_law 402 = .ok (.bipush 28, 2) := by decide +kernel
theorem dL_law_404 : decode cL_law 404 = .ok (.aload_n 2, 1) := by decide +kernel
theorem dL_law_405 : decode cL_law 405 = .ok (.iload 6, 2) := by decide +kernel
theorem dL_law_407 : decode cL_law 407 = .ok (.iconst 2, 1) := by decide +kernel
theorem dL_law_408 : decode cL_law 408 = .ok (.invokevirtual 87, 3) := by decide +kernel
theorem dL_law_411 : decode cL_law 411 = .ok (.imul, 1) := by decide +kernel
theorem dL_law_412 : decode cL_law 412 = .ok (.iadd, 1) := by decide +kernel
theorem dL_law_413 : decode cL_law 413 = .ok (.aload_n 2, 1) := by decide +kernel
theorem dL_law_414 : decode cL_law 414 = .ok (.iload 6, 2) := by decide +kernel
theorem dL_law_416 : decode cL_law 416 = .ok (.iconst 3, 1) := by decide +kernel
theorem dL_law_417 : decode cL_law 417 = .ok (.invokevirtual 87, 3) := by decide +kernel
theorem dL_law_420 : decode cL_law 420 = .ok (.iadd, 1) := by decide +kernel
theorem dL_law_421 : decode cL_law 421 = .ok (.iload 12, 2) := by decide +kernel
theorem dL_law_423 : decode cL_law 423 = .ok (.if_icmp .eq 5, 3) := by decide +kernel
theorem dL_law_426 : decode cL_law 426 = .ok (.iconst 0, 1) := by decide +kernel
theorem dL_law_427 : decode cL_law 427 = .ok (.ireturn, 1) := by decide +kernel
theorem dL_law_428 : decode cL_law 428 = .ok (.iconst 4, 1) := by decide +kernel
theorem dL_law_429 : decode cL_law 429 = .ok (.newarray .int, 2) := by decide +kernel
theorem dL_law_431 : decode cL_law 431 = .ok (.astore 17, 2) := by decide +kernel
theorem dL_law_433 : decode cL_law 433 = .ok (.iconst 0, 1) := by decide +kernel
theorem dL_law_434 : decode cL_law 434 = .ok (.istore 18, 2) := by decide +kernel
theorem dL_law_436 : decode cL_law 436 = .ok (.iload 18, 2) := by decide +kernel
theorem dL_law_438 : decode cL_law 438 = .ok (.iload_n 3, 1) := by decide +kernel
theorem dL_law_439 : decode cL_law 439 = .ok (.if_icmp .ge 189, 3) := by decide +kernel
theorem dL_law_442 : decode cL_law 442 = .ok (.aload 17, 2) := by decide +kernel
theorem dL_law_444 : decode cL_law 444 = .ok (.iconst 0, 1) := by decide +kernel
theorem dL_law_445 : decode cL_law 445 = .ok (.dup2, 1) := by decide +kernel
theorem dL_law_446 : decode cL_law 446 = .ok (.iaload, 1) := by decide +kernel
theorem dL_law_447 : decode cL_law 447 = .ok (.aload_n 2, 1) := by decide +kernel
theorem dL_law_448 : decode cL_law 448 = .ok (.iload 18, 2) := by decide +kernel
theorem dL_law_450 : decode cL_law 450 = .ok (.iconst 2, 1) := by decide +kernel
theorem dL_law_451 : decode cL_law 451 = .ok (.invokevirtual 82, 3) := by decide +kernel
theorem dL_law_454 : decode cL_law 454 = .ok (.iadd, 1) := by decide +kernel
theorem dL_law_455 : decode cL_law 455 = .ok (.iastore, 1) := by decide +kernel
theorem dL_law_456 : decode cL_law 456 = .ok (.aload 17, 2) := by decide +kernel
theorem dL_law_458 : decode cL_law 458 = .ok (.iconst 1, 1) := by decide +kernel
theorem dL_law_459 : decode cL_law 459 = .ok (.dup2, 1) := by decide +kernel
theorem dL_law_460 : decode cL_law 460 = .ok (.iaload, 1) := by decide +kernel
theorem dL_law_461 : decode cL_law 461 = .ok (.aload_n 2, 1) := by decide +kernel
theorem dL_law_462 : decode cL_law 462 = .ok (.iload 18, 2) := by decide +kernel
theorem dL_law_464 : decode cL_law 464 = .ok (.iconst 4, 1) := by decide +kernel
theorem dL_law_465 : decode cL_law 465 = .ok (.invokevirtual 82, 3) := by decide +kernel
theorem dL_law_468 : decode cL_law 468 = .ok (.iadd, 1) := by decide +kernel
theorem dL_law_469 : decode cL_law 469 = .ok (.iastore, 1) := by decide +kernel
theorem dL_law_470 : decode cL_law 470 = .ok (.aload 17, 2) := by decide +kernel
theorem dL_law_472 : decode cL_law 472 = .ok (.iconst 2, 1) := by decide +kernel
theorem dL_law_473 : decode cL_law 473 = .ok (.dup2, 1) := by decide +kernel
theorem dL_law_474 : decode cL_law 474 = .ok (.iaload, 1) := by decide +kernel
theorem dL_law_475 : decode cL_law 475 = .ok (.aload_n 2, 1) := by decide +kernel
theorem dL_law_476 : decode cL_law 476 = .ok (.iload 18, 2) := by decide +kernel
theorem dL_law_478 : decode cL_law 478 = .ok (.iconst 5, 1) := by decide +kernel
theorem dL_law_479 : decode cL_law 479 = .ok (.invokevirtual 82, 3) := by decide +kernel
theorem dL_law_482 : decode cL_law 482 = .ok (.iadd, 1) := by decide +kernel
theorem dL_law_483 : decode cL_law 483 = .ok (.iastore, 1) := by decide +kernel
theorem dL_law_484 : decode cL_law 484 = .ok (.iconst 0, 1) := by decide +kernel
theorem dL_law_485 : decode cL_law 485 = .ok (.istore 19, 2) := by decide +kernel
theorem dL_law_487 : decode cL_law 487 = .ok (.iload 19, 2) := by decide +kernel
theorem dL_law_489 : decode cL_law 489 = .ok (.bipush 8, 2) := by decide +kernel
theorem dL_law_491 : decode cL_law 491 = .ok (.if_icmp .ge 24, 3) := by decide +kernel
theorem dL_law_494 : decode cL_law 494 = .ok (.aload 17, 2) := by decide +kernel
theorem dL_law_496 : decode cL_law 496 = .ok (.iconst 3, 1) := by decide +kernel
theorem dL_law_497 : decode cL_law 497 = .ok (.dup2, 1) := by decide +kernel
theorem dL_law_498 : decode cL_law 498 = .ok (.iaload, 1) := by decide +kernel
theorem dL_law_499 : decode cL_law 499 = .ok (.aload_n 2, 1) := by decide +kernel
theorem dL_law_500 : decode cL_law 500 = .ok (.iload 18, 2) := by decide +kernel
theorem dL_law_502 : decode cL_law 502 = .ok (.iload 19, 2) := by decide +kernel
theorem dL_law_504 : decode cL_law 504 = .ok (.invokevirtual 99, 3) := by decide +kernel
theorem dL_law_507 : decode cL_law 507 = .ok (.iadd, 1) := by decide +kernel
theorem dL_law_508 : decode cL_law 508 = .ok (.iastore, 1) := by decide +kernel
theorem dL_law_509 : decode cL_law 509 = .ok (.iinc 19 1, 3) := by decide +kernel
theorem dL_law_512 : decode cL_law 512 = .ok (.goto (-25), 3) := by decide +kernel
theorem dL_law_515 : decode cL_law 515 = .ok (.aload_n 2, 1) := by decide +kernel
theorem dL_law_516 : decode cL_law 516 = .ok (.iload 18, 2) := by decide +kernel
theorem dL_law_518 : decode cL_law 518 = .ok (.iconst 3, 1) := by decide +kernel
theorem dL_law_519 : decode cL_law 519 = .ok (.invokevirtual 82, 3) := by decide +kernel
theorem dL_law_522 : decode cL_law 522 = .ok (.aload_n 2, 1) := by decide +kernel
theorem dL_law_523 : decode cL_law 523 = .ok (.iload 18, 2) := by decide +kernel
theorem dL_law_525 : decode cL_law 525 = .ok (.iconst 2, 1) := by decide +kernel
theorem dL_law_526 : decode cL_law 526 = .ok (.invokevirtual 82, 3) := by decide +kernel
theorem dL_law_529 : decode cL_law 529 = .ok (.if_icmp .gt 91, 3) := by decide +kernel
theorem dL_law_532 : decode cL_law 532 = .ok (.aload_n 2, 1) := by decide +kernel
theorem dL_law_533 : decode cL_law 533 = .ok (.iload 18, 2) := by decide +kernel
theorem dL_law_535 : decode cL_law 535 = .ok (.iconst 5, 1) := by decide +kernel
theorem dL_law_536 : decode cL_law 536 = .ok (.invokevirtual 82, 3) := by decide +kernel
theorem dL_law_539 : decode cL_law 539 = .ok (.aload_n 2, 1) := by decide +kernel
theorem dL_law_540 : decode cL_law 540 = .ok (.iload 18, 2) := by decide +kernel
theorem dL_law_542 : decode cL_law 542 = .ok (.iconst 4, 1) := by decide +kernel
theorem dL_law_543 : decode cL_law 543 = .ok (.invokevirtual 82, 3) := by decide +kernel
theorem dL_law_546 : decode cL_law 546 = .ok (.if_icmp .lt 74, 3) := by decide +kernel
theorem dL_law_549 : decode cL_law 549 = .ok (.aload_n 2, 1) := by decide +kernel
theorem dL_law_550 : decode cL_law 550 = .ok (.iload 18, 2) := by decide +kernel
theorem dL_law_552 : decode cL_law 552 = .ok (.iconst 3, 1) := by decide +kernel
theorem dL_law_553 : decode cL_law 553 = .ok (.invokevirtual 82, 3) := by decide +kernel
theorem dL_law_556 : decode cL_law 556 = .ok (.iconst 1, 1) := by decide +kernel
theorem dL_law_557 : decode cL_law 557 = .ok (.if_icmp .ne 65, 3) := by decide +kernel
theorem dL_law_560 : decode cL_law 560 = .ok (.aload_n 2, 1) := by decide +kernel
theorem dL_law_561 : decode cL_law 561 = .ok (.iload 18, 2) := by decide +kernel
theorem dL_law_563 : decode cL_law 563 = .ok (.invokevirtual 76, 3) := by decide +kernel
theorem dL_law_566 : decode cL_law 566 = .ok (.ifCond .eq 54, 3) := by decide +kernel
theorem dL_law_569 : decode cL_law 569 = .ok (.aload_n 2, 1) := by decide +kernel
theorem dL_law_570 : decode cL_law 570 = .ok (.iload 18, 2) := by decide +kernel
theorem dL_law_572 : decode cL_law 572 = .ok (.iconst 1, 1) := by decide +kernel
theorem dL_law_573 : decode cL_law 573 = .ok (.aload_n 2, 1) := by decide +kernel
theorem dL_law_574 : decode cL_law 574 = .ok (.iload 18, 2) := by decide +kernel
theorem dL_law_576 : decode cL_law 576 = .ok (.iconst 1, 1) := by decide +kernel
theorem dL_law_577 : decode cL_law 577 = .ok (.invokevirtual 87, 3) := by decide +kernel
theorem dL_law_580 : decode cL_law 580 = .ok (.invokevirtual 102, 3) := by decide +kernel
theorem dL_law_583 : decode cL_law 583 = .ok (.ifCond .eq 37, 3) := by decide +kernel
theorem dL_law_586 : decode cL_law 586 = .ok (.aload_n 2, 1) := by decide +kernel
theorem dL_law_587 : decode cL_law 587 = .ok (.iload 18, 2) := by decide +kernel
theorem dL_law_589 : decode cL_law 589 = .ok (.iconst 2, 1) := by decide +kernel
theorem dL_law_590 : decode cL_law 590 = .ok (.aload_n 2, 1) := by decide +kernel
theorem dL_law_591 : decode cL_law 591 = .ok (.iload 18, 2) := by decide +kernel
theorem dL_law_593 : decode cL_law 593 = .ok (.iconst 2, 1) := by decide +kernel
theorem dL_law_594 : decode cL_law 594 = .ok (.invokevirtual 87, 3) := by decide +kernel
theorem dL_law_597 : decode cL_law 597 = .ok (.invokevirtual 102, 3) := by decide +kernel
theorem dL_law_600 : decode cL_law 600 = .ok (.ifCond .eq 20, 3) := by decide +kernel
theorem dL_law_603 : decode cL_law 603 = .ok (.aload_n 2, 1) := by decide +kernel
theorem dL_law_604 : decode cL_law 604 = .ok (.iload 18, 2) := by decide +kernel
theorem dL_law_606 : decode cL_law 606 = .ok (.iconst 3, 1) := by decide +kernel
theorem dL_law_607 : decode cL_law 607 = .ok (.aload_n 2, 1) := by decide +kernel
theorem dL_law_608 : decode cL_law 608 = .ok (.iload 18, 2) := by decide +kernel
theorem dL_law_610 : decode cL_law 610 = .ok (.iconst 3, 1) := by decide +kernel
theorem dL_law_611 : decode cL_law 611 = .ok (.invokevirtual 87, 3) := by decide +kernel
theorem dL_law_614 : decode cL_law 614 = .ok (.invokevirtual 102, 3) := by decide +kernel
theorem dL_law_617 : decode cL_law 617 = .ok (.ifCond .ne 5, 3) := by decide +kernel
theorem dL_law_620 : decode cL_law 620 = .ok (.iconst 0, 1) := by decide +kernel
theorem dL_law_621 : decode cL_law 621 = .ok (.ireturn, 1) := by decide +kernel
theorem dL_law_622 : decode cL_law 622 = .ok (.iinc 18 1, 3) := by decide +kernel
theorem dL_law_625 : decode cL_law 625 = .ok (.goto (-189), 3) := by decide +kernel
theorem dL_law_628 : decode cL_law 628 = .ok (.aload_n 2, 1) := by decide +kernel
theorem dL_law_629 : decode cL_law 629 = .ok (.iconst 1, 1) := by decide +kernel
theorem dL_law_630 : decode cL_law 630 = .ok (.invokevirtual 84, 3) := by decide +kernel
theorem dL_law_633 : decode cL_law 633 = .ok (.aload 17, 2) := by decide +kernel
theorem dL_law_635 : decode cL_law 635 = .ok (.iconst 0, 1) := by decide +kernel
theorem dL_law_636 : decode cL_law 636 = .ok (.iaload, 1) := by decide +kernel
theorem dL_law_637 : decode cL_law 637 = .ok (.if_icmp .ne 69, 3) := by decide +kernel
theorem dL_law_640 : decode cL_law 640 = .ok (.aload_n 2, 1) := by decide +kernel
theorem dL_law_641 : decode cL_law 641 = .ok (.iconst 3, 1) := by decide +kernel
theorem dL_law_642 : decode cL_law 642 = .ok (.invokevirtual 84, 3) := by decide +kernel
theorem dL_law_645 : decode cL_law 645 = .ok (.aload 17, 2) := by decide +kernel
theorem dL_law_647 : decode cL_law 647 = .ok (.iconst 1, 1) := by decide +kernel
theorem dL_law_648 : decode cL_law 648 = .ok (.iaload, 1) := by decide +kernel
theorem dL_law_649 : decode cL_law 649 = .ok (.if_icmp .ne 57, 3) := by decide +kernel
theorem dL_law_652 : decode cL_law 652 = .ok (.aload_n 2, 1) := by decide +kernel
theorem dL_law_653 : decode cL_law 653 = .ok (.iconst 5, 1) := by decide +kernel
theorem dL_law_654 : decode cL_law 654 = .ok (.invokevirtual 84, 3) := by decide +kernel
theorem dL_law_657 : decode cL_law 657 = .ok (.aload 17, 2) := by decide +kernel
theorem dL_law_659 : decode cL_law 659 = .ok (.iconst 2, 1) := by decide +kernel
theorem dL_law_660 : decode cL_law 660 = .ok (.iaload, 1) := by decide +kernel
theorem dL_law_661 : decode cL_law 661 = .ok (.if_icmp .ne 45, 3) := by decide +kernel
theorem dL_law_664 : decode cL_law 664 = .ok (.aload_n 2, 1) := by decide +kernel
theorem dL_law_665 : decode cL_law 665 = .ok (.iconst 4, 1) := by decide +kernel
theorem dL_law_666 : decode cL_law 666 = .ok (.invokevirtual 84, 3) := by decide +kernel
theorem dL_law_669 : decode cL_law 669 = .ok (.aload 17, 2) := by decide +kernel
theorem dL_law_671 : decode cL_law 671 = .ok (.iconst 3, 1) := by decide +kernel
theorem dL_law_672 : decode cL_law 672 = .ok (.iaload, 1) := by decide +kernel
theorem dL_law_673 : decode cL_law 673 = .ok (.if_icmp .ne 33, 3) := by decide +kernel
theorem dL_law_676 : decode cL_law 676 = .ok (.aload_n 2, 1) := by decide +kernel
theorem dL_law_677 : decode cL_law 677 = .ok (.invokevirtual 105, 3) := by decide +kernel
theorem dL_law_680 : decode cL_law 680 = .ok (.aload 17, 2) := by decide +kernel
theorem dL_law_682 : decode cL_law 682 = .ok (.iconst 0, 1) := by decide +kernel
theorem dL_law_683 : decode cL_law 683 = .ok (.iaload, 1) := by decide +kernel
theorem dL_law_684 : decode cL_law 684 = .ok (.ifCond .ne 7, 3) := by decide +kernel
theorem dL_law_687 : decode cL_law 687 = .ok (.dconst 0, 1) := by decide +kernel
theorem dL_law_688 : decode cL_law 688 = .ok (.goto 14, 3) := by decide +kernel
theorem dL_law_691 : decode cL_law 691 = .ok (.aload 17, 2) := by decide +kernel
theorem dL_law_693 : decode cL_law 693 = .ok (.iconst 2, 1) := by decide +kernel
theorem dL_law_694 : decode cL_law 694 = .ok (.iaload, 1) := by decide +kernel
theorem dL_law_695 : decode cL_law 695 = .ok (.i2d, 1) := by decide +kernel
theorem dL_law_696 : decode cL_law 696 = .ok (.aload 17, 2) := by decide +kernel
theorem dL_law_698 : decode cL_law 698 = .ok (.iconst 0, 1) := by decide +kernel
theorem dL_law_699 : decode cL_law 699 = .ok (.iaload, 1) := by decide +kernel
theorem dL_law_700 : decode cL_law 700 = .ok (.i2d, 1) := by decide +kernel
theorem dL_law_701 : decode cL_law 701 = .ok (.ddiv, 1) := by decide +kernel
theorem dL_law_702 : decode cL_law 702 = .ok (.dcmp .l, 1) := by decide +kernel
theorem dL_law_703 : decode cL_law 703 = .ok (.ifCond .eq 5, 3) := by decide +kernel
theorem dL_law_706 : decode cL_law 706 = .ok (.iconst 0, 1) := by decide +kernel
theorem dL_law_707 : decode cL_law 707 = .ok (.ireturn, 1) := by decide +kernel
theorem dL_law_708 : decode cL_law 708 = .ok (.iinc 4 1, 3) := by decide +kernel
theorem dL_law_711 : decode cL_law 711 = .ok (.goto (-694), 3) := by decide +kernel
theorem dL_law_714 : decode cL_law 714 = .ok (.iconst 1, 1) := by decide +kernel
theorem dL_law_715 : decode cL_law 715 = .ok (.ireturn, 1) := by decide +kernel
