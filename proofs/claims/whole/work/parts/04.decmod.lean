theorem dX6_in_0 : decode cX6_in 0 = .ok (.lload_n 0, 1) := by decide +kernel
theorem dX6_in_1 : decode cX6_in 1 = .ok (.lload_n 2, 1) := by decide +kernel
theorem dX6_in_2 : decode cX6_in 2 = .ok (.lcmp, 1) := by decide +kernel
theorem dX6_in_3 : decode cX6_in 3 = .ok (.ifCond .lt 14, 3) := by decide +kernel
theorem dX6_in_6 : decode cX6_in 6 = .ok (.lload_n 0, 1) := by decide +kernel
theorem dX6_in_7 : decode cX6_in 7 = .ok (.lload 4, 2) := by decide +kernel
theorem dX6_in_9 : decode cX6_in 9 = .ok (.lcmp, 1) := by decide +kernel
theorem dX6_in_10 : decode cX6_in 10 = .ok (.ifCond .gt 7, 3) := by decide +kernel
theorem dX6_in_13 : decode cX6_in 13 = .ok (.iconst 1, 1) := by decide +kernel
theorem dX6_in_14 : decode cX6_in 14 = .ok (.goto 4, 3) := by decide +kernel
theorem dX6_in_17 : decode cX6_in 17 = .ok (.iconst 0, 1) := by decide +kernel
theorem dX6_in_18 : decode cX6_in 18 = .ok (.ireturn, 1) := by decide +kernel
set_option maxRecDepth 20000 in
theorem ggX6_init_X6_plain : GoodIn wsX6_init wsX6_plain := goodIn_r _ [17, 6, 24, 25, 26, 27, 28, 29, 30, 31, 32, 33, 34, 35, 36, 37, 38, 39] (by decide +kernel) (by decide +kernel)
set_option maxRecDepth 20000 in
theorem gX6_init_X6_plain : GoodIn wsX6_init (wsV RX6 34 RX6 yX6_plain wsX6_plain) := goodIn_app (goodIn_of _ (by decide +kernel)) ggX6_init_X6_plain
set_option maxRecDepth 20000 in
theorem ggX6_init_X6_takes : GoodIn wsX6_init wsX6_takes := goodIn_r _ [21, 7, 6, 8, 22, 23, 12, 24, 25, 26, 27, 28, 29, 30, 31, 32, 33, 34, 35, 36, 37, 38, 39] (by decide +kernel) (by decide +kernel)
set_option maxRecDepth 20000 in
theorem gX6_init_X6_takes : GoodIn wsX6_init (wsV RX6 37 RX6 yX6_takes wsX6_takes) := goodIn_app (goodIn_of _ (by decide +kernel)) ggX6_init_X6_takes
theorem dX6_init_0 : decode cX6_init 0 = .ok (.aload_n 0, 1) := by decide +kernel
theorem dX6_init_1 : decode cX6_init 1 = .ok (.invokespecial 1, 3) := by decide +kernel
theorem dX6_init_4 : decode cX6_init 4 = .ok (.aload_n 0, 1) := by decide +kernel
theorem dX6_init_5 : decode cX6_init 5 = .ok (.sipush 150, 3) := by decide +kernel
theorem dX6_init_8 : decode cX6_init 8 = .ok (.newarray .int, 2) := by decide +kernel
theorem dX6_init_10 : decode cX6_init 10 = .ok (.putfield 7, 3) := by decide +kernel
theorem dX6_init_13 : decode cX6_init 13 = .ok (.aload_n 0, 1) := by decide +kernel
theorem dX6_init_14 : decode cX6_init 14 = .ok (.bipush 51, 2) := by decide +kernel
theorem dX6_init_16 : decode cX6_init 16 = .ok (.newarray .int, 2) := by decide +kernel
theorem dX6_init_18 : decode cX6_init 18 = .ok (.putfield 13, 3) := by decide +kernel
theorem dX6_init_21 : decode cX6_init 21 = .ok (.aload_n 0, 1) := by decide +kernel
theorem dX6_init_22 : decode cX6_init 22 = .ok (.bipush 51, 2) := by decide +kernel
theorem dX6_init_24 : decode cX6_init 24 = .ok (.newarray .int, 2) := by decide +kernel
theorem dX6_init_26 : decode cX6_init 26 = .ok (.putfield 16, 3) := by decide +kernel
theorem dX6_init_29 : decode cX6_init 29 = .ok (.aload_n 0, 1) := by decide +kernel
theorem dX6_init_30 : decode cX6_init 30 = .ok (.bipush 43, 2) := by decide +kernel
theorem dX6_init_32 : decode cX6_init 32 = .ok (.newarray .int, 2) := by decide +kernel
theorem dX6_init_34 : decode cX6_init 34 = .ok (.putfield 19, 3) := by decide +kernel
theorem dX6_init_37 : decode cX6_init 37 = .ok (.aload_n 0, 1) := by decide +kernel
theorem dX6_init_38 : decode cX6_init 38 = .ok (.sipush 430, 3) := by decide +kernel
theorem dX6_init_41 : decode cX6_init 41 = .ok (.newarray .int, 2) := by decide +kernel
theorem dX6_init_43 : decode cX6_init 43 = .ok (.putfield 22, 3) := by decide +kernel
theorem dX6_init_46 : decode cX6_init 46 = .ok (.aload_n 0, 1) := by decide +kernel
theorem dX6_init_47 : decode cX6_init 47 = .ok (.bipush 43, 2) := by decide +kernel
theorem dX6_init_49 : decode cX6_init 49 = .ok (.newarray .int, 2) := by decide +kernel
theorem dX6_init_51 : decode cX6_init 51 = .ok (.putfield 25, 3) := by decide +kernel
theorem dX6_init_54 : decode cX6_init 54 = .ok (.aload_n 0, 1) := by decide +kernel
theorem dX6_init_55 : decode cX6_init 55 = .ok (.bipush 7, 2) := by decide +kernel
theorem dX6_init_57 : decode cX6_init 57 = .ok (.newarray .int, 2) := by decide +kernel
theorem dX6_init_59 : decode cX6_init 59 = .ok (.putfield 28, 3) := by decide +kernel
theorem dX6_init_62 : decode cX6_init 62 = .ok (.aload_n 0, 1) := by decide +kernel
theorem dX6_init_63 : decode cX6_init 63 = .ok (.sipush 950, 3) := by decide +kernel
theorem dX6_init_66 : decode cX6_init 66 = .ok (.newarray .int, 2) := by decide +kernel
theorem dX6_init_68 : decode cX6_init 68 = .ok (.putfield 31, 3) := by decide +kernel
theorem dX6_init_71 : decode cX6_init 71 = .ok (.aload_n 0, 1) := by decide +kernel
theorem dX6_init_72 : decode cX6_init 72 = .ok (.invokevirtual 34, 3) := by decide +kernel
theorem dX6_init_75 : decode cX6_init 75 = .ok (.aload_n 0, 1) := by decide +kernel
theorem dX6_init_76 : decode cX6_init 76 = .ok (.invokevirtual 37, 3) := by decide +kernel
theorem dX6_init_79 : decode cX6_init 79 = .ok (.return_, 1) := by decide +kernel
set_option maxRecDepth 20000 in
theorem ggX6_type_X6_in : GoodIn wsX6_type wsX6_in := goodIn_r _ [7] (by decide +kernel) (by decide +kernel)
set_option maxRecDepth 20000 in
theorem gX6_type_X6_in : GoodIn wsX6_type (va_wsS RX6 42 yX6_in wsX6_in) := goodIn_app (goodIn_of _ (by decide +kernel)) ggX6_type_X6_in
theorem dX6_type_0 : decode cX6_type 0 = .ok (.iload_n 1, 1) := by decide +kernel
theorem dX6_type_1 : decode cX6_type 1 = .ok (.i2l, 1) := by decide +kernel
theorem dX6_type_2 : decode cX6_type 2 = .ok (.lconst 0, 1) := by decide +kernel
theorem dX6_type_3 : decode cX6_type 3 = .ok (.ldc2_w 40, 3) := by decide +kernel
theorem dX6_type_6 : decode cX6_type 6 = .ok (.invokestatic 42, 3) := by decide +kernel
theorem dX6_type_9 : decode cX6_type 9 = .ok (.ifCond .ne 5, 3) := by decide +kernel
theorem dX6_type_12 : decode cX6_type 12 = .ok (.iconst (-1), 1) := by decide +kernel
theorem dX6_type_13 : decode cX6_type 13 = .ok (.ireturn, 1) := by decide +kernel
theorem dX6_type_14 : decode cX6_type 14 = .ok (.aload_n 0, 1) := by decide +kernel
theorem dX6_type_15 : decode cX6_type 15 = .ok (.getfield 46, 3) := by decide +kernel
theorem dX6_type_18 : decode cX6_type 18 = .ok (.sipush 150, 3) := by decide +kernel
theorem dX6_type_21 : decode cX6_type 21 = .ok (.if_icmp .ne 6, 3) := by decide +kernel
theorem dX6_type_24 : decode cX6_type 24 = .ok (.bipush (-3), 2) := by decide +kernel
theorem dX6_type_26 : decode cX6_type 26 = .ok (.ireturn, 1) := by decide +kernel
theorem dX6_type_27 : decode cX6_type 27 = .ok (.aload_n 0, 1) := by decide +kernel
theorem dX6_type_28 : decode cX6_type 28 = .ok (.getfield 7, 3) := by decide +kernel
theorem dX6_type_31 : decode cX6_type 31 = .ok (.aload_n 0, 1) := by decide +kernel
theorem dX6_type_32 : decode cX6_type 32 = .ok (.getfield 46, 3) := by decide +kernel
theorem dX6_type_35 : decode cX6_type 35 = .ok (.iload_n 1, 1) := by decide +kernel
theorem dX6_type_36 : decode cX6_type 36 = .ok (.iastore, 1) := by decide +kernel
theorem dX6_type_37 : decode cX6_type 37 = .ok (.aload_n 0, 1) := by decide +kernel
theorem dX6_type_38 : decode cX6_type 38 = .ok (.dup, 1) := by decide +kernel
theorem dX6_type_39 : decode cX6_type 39 = .ok (.getfield 46, 3) := by decide +kernel
theorem dX6_type_42 : decode cX6_type 42 = .ok (.iconst 1, 1) := by decide +kernel
theorem dX6_type_43 : decode cX6_type 43 = .ok (.iadd, 1) := by decide +kernel
theorem dX6_type_44 : decode cX6_type 44 = .ok (.putfield 46, 3) := by decide +kernel
theorem dX6_type_47 : decode cX6_type 47 = .ok (.aload_n 0, 1) := by decide +kernel
theorem dX6_type_48 : decode cX6_type 48 = .ok (.getfield 46, 3) := by decide +kernel
theorem dX6_type_51 : decode cX6_type 51 = .ok (.ireturn, 1) := by decide +kernel
theorem dX6_clear_0 : decode cX6_clear 0 = .ok (.aload_n 0, 1) := by decide +kernel
theorem dX6_clear_1 : decode cX6_clear 1 = .ok (.getfield 46, 3) := by decide +kernel
theorem dX6_clear_4 : decode cX6_clear 4 = .ok (.istore_n 1, 1) := by decide +kernel
theorem dX6_clear_5 : decode cX6_clear 5 = .ok (.aload_n 0, 1) := by decide +kernel
theorem dX6_clear_6 : decode cX6_clear 6 = .ok (.iconst 0, 1) := by decide +kernel
theorem dX6_clear_7 : decode cX6_clear 7 = .ok (.putfield 46, 3) := by decide +kernel
theorem dX6_clear_10 : decode cX6_clear 10 = .ok (.iload_n 1, 1) := by decide +kernel
theorem dX6_clear_11 : decode cX6_clear 11 = .ok (.ireturn, 1) := by decide +kernel
set_option maxRecDepth 20000 in
theorem ggX6_isLetter_X6_in : GoodIn wsX6_isLetter wsX6_in := goodIn_r _ [6] (by decide +kernel) (by decide +kernel)
set_option maxRecDepth 20000 in
theorem gX6_isLetter_X6_in : GoodIn wsX6_isLetter (va_wsS RX6 42 yX6_in wsX6_in) := goodIn_app (goodIn_of _ (by decide +kernel)) ggX6_isLetter_X6_in
theorem dX6_isLetter_0 : decode cX6_isLetter 0 = .ok (.iload_n 0, 1) := by decide +kernel
theorem dX6_isLetter_1 : decode cX6_isLetter 1 = .ok (.i2l, 1) := by decide +kernel
theorem dX6_isLetter_2 : decode cX6_isLetter 2 = .ok (.ldc2_w 50, 3) := by decide +kernel
theorem dX6_isLetter_5 : decode cX6_isLetter 5 = .ok (.ldc2_w 52, 3) := by decide +kernel
theorem dX6_isLetter_8 : decode cX6_isLetter 8 = .ok (.invokestatic 42, 3) := by decide +kernel
theorem dX6_isLetter_11 : decode cX6_isLetter 11 = .ok (.ireturn, 1) := by decide +kernel
set_option maxRecDepth 20000 in
theorem ggX6_isFigure_X6_in : GoodIn wsX6_isFigure wsX6_in := goodIn_r _ [6] (by decide +kernel) (by decide +kernel)
set_option maxRecDepth 20000 in
theorem gX6_isFigure_X6_in : GoodIn wsX6_isFigure (va_wsS RX6 42 yX6_in wsX6_in) := goodIn_app (goodIn_of _ (by decide +kernel)) ggX6_isFigure_X6_in
theorem dX6_isFigure_0 : decode cX6_isFigure 0 = .ok (.iload_n 0, 1) := by decide +kernel
theorem dX6_isFigure_1 : decode cX6_isFigure 1 = .ok (.i2l, 1) := by decide +kernel
theorem dX6_isFigure_2 : decode cX6_isFigure 2 = .ok (.ldc2_w 54, 3) := by decide +kernel
theorem dX6_isFigure_5 : decode cX6_isFigure 5 = .ok (.ldc2_w 56, 3) := by decide +kernel
theorem dX6_isFigure_8 : decode cX6_isFigure 8 = .ok (.invokestatic 42, 3) := by decide +kernel
theorem dX6_isFigure_11 : decode cX6_isFigure 11 = .ok (.ireturn, 1) := by decide +kernel
set_option maxRecDepth 20000 in
theorem ggX6_readLetters_X6_isLetter : GoodIn wsX6_readLetters wsX6_isLetter := goodIn_r _ [10, 11, 12, 13, 14, 9, 15] (by decide +kernel) (by decide +kernel)
set_option maxRecDepth 20000 in
theorem gX6_readLetters_X6_isLetter : GoodIn wsX6_readLetters (va_wsS RX6 64 yX6_isLetter wsX6_isLetter) := goodIn_app (goodIn_of _ (by decide +kernel)) ggX6_readLetters_X6_isLetter
theorem dX6_readLetters_0 : decode cX6_readLetters 0 = .ok (.aload_n 0, 1) := by decide +kernel
theorem dX6_readLetters_1 : decode cX6_readLetters 1 = .ok (.aload_n 0, 1) := by decide +kernel
theorem dX6_readLetters_2 : decode cX6_readLetters 2 = .ok (.getfield 7, 3) := by decide +kernel
theorem dX6_readLetters_5 : decode cX6_readLetters 5 = .ok (.aload_n 0, 1) := by decide +kernel
theorem dX6_readLetters_6 : decode cX6_readLetters 6 = .ok (.getfield 58, 3) := by decide +kernel
theorem dX6_readLetters_9 : decode cX6_readLetters 9 = .ok (.iaload, 1) := by decide +kernel
theorem dX6_readLetters_10 : decode cX6_readLetters 10 = .ok (.putfield 61, 3) := by decide +kernel
theorem dX6_readLetters_13 : decode cX6_readLetters 13 = .ok (.aload_n 0, 1) := by decide +kernel
theorem dX6_readLetters_14 : decode cX6_readLetters 14 = .ok (.getfield 58, 3) := by decide +kernel
theorem dX6_readLetters_17 : decode cX6_readLetters 17 = .ok (.aload_n 0, 1) := by decide +kernel
theorem dX6_readLetters_18 : decode cX6_readLetters 18 = .ok (.getfield 46, 3) := by decide +kernel
theorem dX6_readLetters_21 : decode cX6_readLetters 21 = .ok (.if_icmp .ge 31, 3) := by decide +kernel
theorem dX6_readLetters_24 : decode cX6_readLetters 24 = .ok (.aload_n 0, 1) := by decide +kernel
theorem dX6_readLetters_25 : decode cX6_readLetters 25 = .ok (.getfield 7, 3) := by decide +kernel
theorem dX6_readLetters_28 : decode cX6_readLetters 28 = .ok (.aload_n 0, 1) := by decide +kernel
theorem dX6_readLetters_29 : decode cX6_readLetters 29 = .ok (.getfield 58, 3) := by decide +kernel
theorem dX6_readLetters_32 : decode cX6_readLetters 32 = .ok (.iaload, 1) := by decide +kernel
theorem dX6_readLetters_33 : decode cX6_readLetters 33 = .ok (.invokestatic 64, 3) := by decide +kernel
theorem dX6_readLetters_36 : decode cX6_readLetters 36 = .ok (.ifCond .eq 16, 3) := by decide +kernel
theorem dX6_readLetters_39 : decode cX6_readLetters 39 = .ok (.aload_n 0, 1) := by decide +kernel
theorem dX6_readLetters_40 : decode cX6_readLetters 40 = .ok (.dup, 1) := by decide +kernel
theorem dX6_readLetters_41 : decode cX6_readLetters 41 = .ok (.getfield 58, 3) := by decide +kernel
theorem dX6_readLetters_44 : decode cX6_readLetters 44 = .ok (.iconst 1, 1) := by decide +kernel
theorem dX6_readLetters_45 : decode cX6_readLetters 45 = .ok (.iadd, 1) := by decide +kernel
theorem dX6_readLetters_46 : decode cX6_readLetters 46 = .ok (.putfield 58, 3) := by decide +kernel
theorem dX6_readLetters_49 : decode cX6_readLetters 49 = .ok (.goto (-36), 3) := by decide +kernel
theorem dX6_readLetters_52 : decode cX6_readLetters 52 = .ok (.aload_n 0, 1) := by decide +kernel
theorem dX6_readLetters_53 : decode cX6_readLetters 53 = .ok (.aload_n 0, 1) := by decide +kernel
theorem dX6_readLetters_54 : decode cX6_readLetters 54 = .ok (.getfield 58, 3) := by decide +kernel
theorem dX6_readLetters_57 : decode cX6_readLetters 57 = .ok (.aload_n 0, 1) := by decide +kernel
theorem dX6_readLetters_58 : decode cX6_readLetters 58 = .ok (.getfield 68, 3) := by decide +kernel
theorem dX6_readLetters_61 : decode cX6_readLetters 61 = .ok (.isub, 1) := by decide +kernel
theorem dX6_readLetters_62 : decode cX6_readLetters 62 = .ok (.iconst 1, 1) := by decide +kernel
theorem dX6_readLetters_63 : decode cX6_readLetters 63 = .ok (.if_icmp .ne 43, 3) := by decide +kernel
theorem dX6_readLetters_66 : decode cX6_readLetters 66 = .ok (.aload_n 0, 1) := by decide +kernel
theorem dX6_readLetters_67 : decode cX6_readLetters 67 = .ok (.getfield 61, 3) := by decide +kernel
theorem dX6_readLetters_70 : decode cX6_readLetters 70 = .ok (.bipush 116, 2) := by decide +kernel
theorem dX6_readLetters_72 : decode cX6_readLetters 72 = .ok (.if_icmp .eq 30, 3) := by decide +kernel
theorem dX6_readLetters_75 : decode cX6_readLetters 75 = .ok (.aload_n 0, 1) := by decide +kernel
theorem dX6_readLetters_76 : decode cX6_readLetters 76 = .ok (.getfield 61, 3) := by decide +kernel
theorem dX6_readLetters_79 : decode cX6_readLetters 79 = .ok (.bipush 104, 2) := by decide +kernel
theorem dX6_readLetters_81 : decode cX6_readLetters 81 = .ok (.if_icmp .eq 21, 3) := by decide +kernel
theorem dX6_readLetters_84 : decode cX6_readLetters 84 = .ok (.aload_n 0, 1) := by decide +kernel
theorem dX6_readLetters_85 : decode cX6_readLetters 85 = .ok (.getfield 61, 3) := by decide +kernel
theorem dX6_readLetters_88 : decode cX6_readLetters 88 = .ok (.bipush 114, 2) := by decide +kernel
theorem dX6_readLetters_90 : decode cX6_readLetters 90 = .ok (.if_icmp .eq 12, 3) := by decide +kernel
theorem dX6_readLetters_93 : decode cX6_readLetters 93 = .ok (.aload_n 0, 1) := by decide +kernel
theorem dX6_readLetters_94 : decode cX6_readLetters 94 = .ok (.getfield 61, 3) := by decide +kernel
theorem dX6_readLetters_97 : decode cX6_readLetters 97 = .ok (.bipush 117, 2) := by decide +kernel
theorem dX6_readLetters_99 : decode cX6_readLetters 99 = .ok (.if_icmp .ne 7, 3) := by decide +kernel
theorem dX6_readLetters_102 : decode cX6_readLetters 102 = .ok (.iconst 1, 1) := by decide +kernel
theorem dX6_readLetters_103 : decode cX6_readLetters 103 = .ok (.goto 4, 3) := by decide +kernel
theorem dX6_readLetters_106 : decode cX6_readLetters 106 = .ok (.iconst 4, 1) := by decide +kernel
theorem dX6_readLetters_107 : decode cX6_readLetters 107 = .ok (.putfield 71, 3) := by decide +kernel
theorem dX6_readLetters_110 : decode cX6_readLetters 110 = .ok (.return_, 1) := by decide +kernel
set_option maxRecDepth 20000 in
theorem ggX6_readNumber_X6_isFigure : GoodIn wsX6_readNumber wsX6_isFigure := goodIn_r _ [10, 11, 12, 13, 14, 9, 15] (by decide +kernel) (by decide +kernel)
set_option maxRecDepth 20000 in
theorem gX6_readNumber_X6_isFigure : GoodIn wsX6_readNumber (va_wsS RX6 74 yX6_isFigure wsX6_isFigure) := goodIn_app (goodIn_of _ (by decide +kernel)) ggX6_readNumber_X6_isFigure
theorem dX6_readNumber_0 : decode cX6_readNumber 0 = .ok (.iconst 0, 1) := by decide +kernel
theorem dX6_readNumber_1 : decode cX6_readNumber 1 = .ok (.istore_n 1, 1) := by decide +kernel
theorem dX6_readNumber_2 : decode cX6_readNumber 2 = .ok (.aload_n 0, 1) := by decide +kernel
theorem dX6_readNumber_3 : decode cX6_readNumber 3 = .ok (.getfield 58, 3) := by decide +kernel
theorem dX6_readNumber_6 : decode cX6_readNumber 6 = .ok (.aload_n 0, 1) := by decide +kernel
theorem dX6_readNumber_7 : decode cX6_readNumber 7 = .ok (.getfield 46, 3) := by decide +kernel
theorem dX6_readNumber_10 : decode cX6_readNumber 10 = .ok (.if_icmp .ge 59, 3) := by decide +kernel
theorem dX6_readNumber_13 : decode cX6_readNumber 13 = .ok (.aload_n 0, 1) := by decide +kernel
theorem dX6_readNumber_14 : decode cX6_readNumber 14 = .ok (.getfield 7, 3) := by decide +kernel
theorem dX6_readNumber_17 : decode cX6_readNumber 17 = .ok (.aload_n 0, 1) := by decide +kernel
theorem dX6_readNumber_18 : decode cX6_readNumber 18 = .ok (.getfield 58, 3) := by decide +kernel
theorem dX6_readNumber_21 : decode cX6_readNumber 21 = .ok (.iaload, 1) := by decide +kernel
theorem dX6_readNumber_22 : decode cX6_readNumber 22 = .ok (.invokestatic 74, 3) := by decide +kernel
theorem dX6_readNumber_25 : decode cX6_readNumber 25 = .ok (.ifCond .eq 44, 3) := by decide +kernel
theorem dX6_readNumber_28 : decode cX6_readNumber 28 = .ok (.iload_n 1, 1) := by decide +kernel
theorem dX6_readNumber_29 : decode cX6_readNumber 29 = .ok (.bipush 99, 2) := by decide +kernel
theorem dX6_readNumber_31 : decode cX6_readNumber 31 = .ok (.if_icmp .le 7, 3) := by decide +kernel
theorem dX6_readNumber_34 : decode cX6_readNumber 34 = .ok (.iload_n 1, 1) := by decide +kernel
theorem dX6_readNumber_35 : decode cX6_readNumber 35 = .ok (.goto 20, 3) := by decide +kernel
theorem dX6_readNumber_38 : decode cX6_readNumber 38 = .ok (.bipush 10, 2) := by decide +kernel
theorem dX6_readNumber_40 : decode cX6_readNumber 40 = .ok (.iload_n 1, 1) := by decide +kernel
theorem dX6_readNumber_41 : decode cX6_readNumber 41 = .ok (.imul, 1) := by decide +kernel
theorem dX6_readNumber_42 : decode cX6_readNumber 42 = .ok (.aload_n 0, 1) := by decide +kernel
theorem dX6_readNumber_43 : decode cX6_readNumber 43 = .ok (.getfield 7, 3) := by decide +kernel
theorem dX6_readNumber_46 : decode cX6_readNumber 46 = .ok (.aload_n 0, 1) := by decide +kernel
theorem dX6_readNumber_47 : decode cX6_readNumber 47 = .ok (.getfield 58, 3) := by decide +kernel
theorem dX6_readNumber_50 : decode cX6_readNumber 50 = .ok (.iaload, 1) := by decide +kernel
theorem dX6_readNumber_51 : decode cX6_readNumber 51 = .ok (.iadd, 1) := by decide +kernel
theorem dX6_readNumber_52 : decode cX6_readNumber 52 = .ok (.bipush 48, 2) := by decide +kernel
theorem dX6_readNumber_54 : decode cX6_readNumber 54 = .ok (.isub, 1) := by decide +kernel
theorem dX6_readNumber_55 : decode cX6_readNumber 55 = .ok (.istore_n 1, 1) := by decide +kernel
theorem dX6_readNumber_56 : decode cX6_readNumber 56 = .ok (.aload_n 0, 1) := by decide +kernel
theorem dX6_readNumber_57 : decode cX6_readNumber 57 = .ok (.dup, 1) := by decide +kernel
theorem dX6_readNumber_58 : decode cX6_readNumber 58 = .ok (.getfield 58, 3) := by decide +kernel
theorem dX6_readNumber_61 : decode cX6_readNumber 61 = .ok (.iconst 1, 1) := by decide +kernel
theorem dX6_readNumber_62 : decode cX6_readNumber 62 = .ok (.iadd, 1) := by decide +kernel
theorem dX6_readNumber_63 : decode cX6_readNumber 63 = .ok (.putfield 58, 3) := by decide +kernel
theorem dX6_readNumber_66 : decode cX6_readNumber 66 = .ok (.goto (-64), 3) := by decide +kernel
theorem dX6_readNumber_69 : decode cX6_readNumber 69 = .ok (.aload_n 0, 1) := by decide +kernel
theorem dX6_readNumber_70 : decode cX6_readNumber 70 = .ok (.iload_n 1, 1) := by decide +kernel
theorem dX6_readNumber_71 : decode cX6_readNumber 71 = .ok (.bipush 99, 2) := by decide +kernel
theorem dX6_readNumber_73 : decode cX6_readNumber 73 = .ok (.if_icmp .gt 30, 3) := by decide +kernel
theorem dX6_readNumber_76 : decode cX6_readNumber 76 = .ok (.aload_n 0, 1) := by decide +kernel
theorem dX6_readNumber_77 : decode cX6_readNumber 77 = .ok (.getfield 58, 3) := by decide +kernel
theorem dX6_readNumber_80 : decode cX6_readNumber 80 = .ok (.aload_n 0, 1) := by decide +kernel
theorem dX6_readNumber_81 : decode cX6_readNumber 81 = .ok (.getfield 68, 3) := by decide +kernel
theorem dX6_readNumber_84 : decode cX6_readNumber 84 = .ok (.isub, 1) := by decide +kernel
theorem dX6_readNumber_85 : decode cX6_readNumber 85 = .ok (.iconst 1, 1) := by decide +kernel
theorem dX6_readNumber_86 : decode cX6_readNumber 86 = .ok (.if_icmp .le 21, 3) := by decide +kernel
theorem dX6_readNumber_89 : decode cX6_readNumber 89 = .ok (.aload_n 0, 1) := by decide +kernel
theorem dX6_readNumber_90 : decode cX6_readNumber 90 = .ok (.getfield 7, 3) := by decide +kernel
theorem dX6_readNumber_93 : decode cX6_readNumber 93 = .ok (.aload_n 0, 1) := by decide +kernel
theorem dX6_readNumber_94 : decode cX6_readNumber 94 = .ok (.getfield 68, 3) := by decide +kernel
theorem dX6_readNumber_97 : decode cX6_readNumber 97 = .ok (.iaload, 1) := by decide +kernel
theorem dX6_readNumber_98 : decode cX6_readNumber 98 = .ok (.bipush 48, 2) := by decide +kernel
theorem dX6_readNumber_100 : decode cX6_readNumber 100 = .ok (.if_icmp .ne 7, 3) := by decide +kernel
theorem dX6_readNumber_103 : decode cX6_readNumber 103 = .ok (.iconst 4, 1) := by decide +kernel
theorem dX6_readNumber_104 : decode cX6_readNumber 104 = .ok (.goto 4, 3) := by decide +kernel
theorem dX6_readNumber_107 : decode cX6_readNumber 107 = .ok (.iconst 2, 1) := by decide +kernel
theorem dX6_readNumber_108 : decode cX6_readNumber 108 = .ok (.putfield 71, 3) := by decide +kernel
theorem dX6_readNumber_111 : decode cX6_readNumber 111 = .ok (.aload_n 0, 1) := by decide +kernel
theorem dX6_readNumber_112 : decode cX6_readNumber 112 = .ok (.iload_n 1, 1) := by decide +kernel
theorem dX6_readNumber_113 : decode cX6_readNumber 113 = .ok (.putfield 61, 3) := by decide +kernel
theorem dX6_readNumber_116 : decode cX6_readNumber 116 = .ok (.return_, 1) := by decide +kernel
set_option maxRecDepth 20000 in
theorem ggX6_reads_X6_isLetter : GoodIn wsX6_reads wsX6_isLetter := goodIn_r _ [9, 10, 11, 12, 13, 8, 14] (by decide +kernel) (by decide +kernel)
set_option maxRecDepth 20000 in
theorem gX6_reads_X6_isLetter : GoodIn wsX6_reads (va_wsS RX6 64 yX6_isLetter wsX6_isLetter) := goodIn_app (goodIn_of _ (by decide +kernel)) ggX6_reads_X6_isLetter
set_option maxRecDepth 20000 in
theorem ggX6_reads_X6_readLetters : GoodIn wsX6_reads wsX6_readLetters := goodIn_r _ [18, 3, 1, 19, 2, 4, 5, 6, 7, 8, 9, 10, 11, 12, 13, 14, 29, 30, 31, 32, 33, 34, 35, 36, 37, 38, 39, 40, 41, 42, 43, 44] (by decide +kernel) (by decide +kernel)
set_option maxRecDepth 20000 in
theorem gX6_reads_X6_readLetters : GoodIn wsX6_reads (wsV RX6 77 RX6 yX6_readLetters wsX6_readLetters) := goodIn_app (goodIn_of _ (by decide +kernel)) ggX6_reads_X6_readLetters
set_option maxRecDepth 20000 in
theorem ggX6_reads_X6_isFigure : GoodIn wsX6_reads wsX6_isFigure := goodIn_r _ [22, 23, 24, 12, 13, 8, 14] (by decide +kernel) (by decide +kernel)
set_option maxRecDepth 20000 in
theorem gX6_reads_X6_isFigure : GoodIn wsX6_reads (va_wsS RX6 74 yX6_isFigure wsX6_isFigure) := goodIn_app (goodIn_of _ (by decide +kernel)) ggX6_reads_X6_isFigure
set_option maxRecDepth 20000 in
theorem ggX6_reads_X6_readNumber : GoodIn wsX6_reads wsX6_readNumber := goodIn_r _ [28, 1, 2, 3, 4, 5, 19, 20, 21, 8, 22, 23, 24, 12, 13, 14, 29, 30, 31, 32, 33, 34, 35, 36, 37, 38, 39, 40, 41, 42, 43, 44] (by decide +kernel) (by decide +kernel)
set_option maxRecDepth 20000 in
theorem gX6_reads_X6_readNumber : GoodIn wsX6_reads (wsV RX6 80 RX6 yX6_readNumber wsX6_readNumber) := goodIn_app (goodIn_of _ (by decide +kernel)) ggX6_reads_X6_readNumber
theorem dX6_reads_0 : decode cX6_reads 0 = .ok (.aload_n 0, 1) := by decide +kernel
theorem dX6_reads_1 : decode cX6_reads 1 = .ok (.getfield 58, 3) := by decide +kernel
theorem dX6_reads_4 : decode cX6_reads 4 = .ok (.aload_n 0, 1) := by decide +kernel
theorem dX6_reads_5 : decode cX6_reads 5 = .ok (.getfield 46, 3) := by decide +kernel
theorem dX6_reads_8 : decode cX6_reads 8 = .ok (.if_icmp .ge 30, 3) := by decide +kernel
theorem dX6_reads_11 : decode cX6_reads 11 = .ok (.aload_n 0, 1) := by decide +kernel
theorem dX6_reads_12 : decode cX6_reads 12 = .ok (.getfield 7, 3) := by decide +kernel
theorem dX6_reads_15 : decode cX6_reads 15 = .ok (.aload_n 0, 1) := by decide +kernel
theorem dX6_reads_16 : decode cX6_reads 16 = .ok (.getfield 58, 3) := by decide +kernel
theorem dX6_reads_19 : decode cX6_reads 19 = .ok (.iaload, 1) := by decide +kernel
theorem dX6_reads_20 : decode cX6_reads 20 = .ok (.bipush 32, 2) := by decide +kernel
theorem dX6_reads_22 : decode cX6_reads 22 = .ok (.if_icmp .ne 16, 3) := by decide +kernel
theorem dX6_reads_25 : decode cX6_reads 25 = .ok (.aload_n 0, 1) := by decide +kernel
theorem dX6_reads_26 : decode cX6_reads 26 = .ok (.dup, 1) := by decide +kernel
theorem dX6_reads_27 : decode cX6_reads 27 = .ok (.getfield 58, 3) := by decide +kernel
theorem dX6_reads_30 : decode cX6_reads 30 = .ok (.iconst 1, 1) := by decide +kernel
theorem dX6_reads_31 : decode cX6_reads 31 = .ok (.iadd, 1) := by decide +kernel
theorem dX6_reads_32 : decode cX6_reads 32 = .ok (.putfield 58, 3) := by decide +kernel
theorem dX6_reads_35 : decode cX6_reads 35 = .ok (.goto (-35), 3) := by decide +kernel
theorem dX6_reads_38 : decode cX6_reads 38 = .ok (.aload_n 0, 1) := by decide +kernel
theorem dX6_reads_39 : decode cX6_reads 39 = .ok (.aload_n 0, 1) := by decide +kernel
theorem dX6_reads_40 : decode cX6_reads 40 = .ok (.getfield 58, 3) := by decide +kernel
theorem dX6_reads_43 : decode cX6_reads 43 = .ok (.putfield 68, 3) := by decide +kernel
theorem dX6_reads_46 : decode cX6_reads 46 = .ok (.aload_n 0, 1) := by decide +kernel
theorem dX6_reads_47 : decode cX6_reads 47 = .ok (.getfield 58, 3) := by decide +kernel
theorem dX6_reads_50 : decode cX6_reads 50 = .ok (.aload_n 0, 1) := by decide +kernel
theorem dX6_reads_51 : decode cX6_reads 51 = .ok (.getfield 46, 3) := by decide +kernel
theorem dX6_reads_54 : decode cX6_reads 54 = .ok (.if_icmp .ne 11, 3) := by decide +kernel
theorem dX6_reads_57 : decode cX6_reads 57 = .ok (.aload_n 0, 1) := by decide +kernel
theorem dX6_reads_58 : decode cX6_reads 58 = .ok (.iconst 0, 1) := by decide +kernel
theorem dX6_reads_59 : decode cX6_reads 59 = .ok (.putfield 71, 3) := by decide +kernel
theorem dX6_reads_62 : decode cX6_reads 62 = .ok (.goto 92, 3) := by decide +kernel
theorem dX6_reads_65 : decode cX6_reads 65 = .ok (.aload_n 0, 1) := by decide +kernel
theorem dX6_reads_66 : decode cX6_reads 66 = .ok (.getfield 7, 3) := by decide +kernel
theorem dX6_reads_69 : decode cX6_reads 69 = .ok (.aload_n 0, 1) := by decide +kernel
theorem dX6_reads_70 : decode cX6_reads 70 = .ok (.getfield 58, 3) := by decide +kernel
theorem dX6_reads_73 : decode cX6_reads 73 = .ok (.iaload, 1) := by decide +kernel
theorem dX6_reads_74 : decode cX6_reads 74 = .ok (.invokestatic 64, 3) := by decide +kernel
theorem dX6_reads_77 : decode cX6_reads 77 = .ok (.ifCond .eq 10, 3) := by decide +kernel
theorem dX6_reads_80 : decode cX6_reads 80 = .ok (.aload_n 0, 1) := by decide +kernel
theorem dX6_reads_81 : decode cX6_reads 81 = .ok (.invokevirtual 77, 3) := by decide +kernel
theorem dX6_reads_84 : decode cX6_reads 84 = .ok (.goto 70, 3) := by decide +kernel
theorem dX6_reads_87 : decode cX6_reads 87 = .ok (.aload_n 0, 1) := by decide +kernel
theorem dX6_reads_88 : decode cX6_reads 88 = .ok (.getfield 7, 3) := by decide +kernel
theorem dX6_reads_91 : decode cX6_reads 91 = .ok (.aload_n 0, 1) := by decide +kernel
theorem dX6_reads_92 : decode cX6_reads 92 = .ok (.getfield 58, 3) := by decide +kernel
theorem dX6_reads_95 : decode cX6_reads 95 = .ok (.iaload, 1) := by decide +kernel
theorem dX6_reads_96 : decode cX6_reads 96 = .ok (.invokestatic 74, 3) := by decide +kernel
theorem dX6_reads_99 : decode cX6_reads 99 = .ok (.ifCond .eq 10, 3) := by decide +kernel
theorem dX6_reads_102 : decode cX6_reads 102 = .ok (.aload_n 0, 1) := by decide +kernel
theorem dX6_reads_103 : decode cX6_reads 103 = .ok (.invokevirtual 80, 3) := by decide +kernel
theorem dX6_reads_106 : decode cX6_reads 106 = .ok (.goto 48, 3) := by decide +kernel
theorem dX6_reads_109 : decode cX6_reads 109 = .ok (.aload_n 0, 1) := by decide +kernel
theorem dX6_reads_110 : decode cX6_reads 110 = .ok (.aload_n 0, 1) := by decide +kernel
theorem dX6_reads_111 : decode cX6_reads 111 = .ok (.getfield 7, 3) := by decide +kernel
theorem dX6_reads_114 : decode cX6_reads 114 = .ok (.aload_n 0, 1) := by decide +kernel
theorem dX6_reads_115 : decode cX6_reads 115 = .ok (.getfield 58, 3) := by decide +kernel
theorem dX6_reads_118 : decode cX6_reads 118 = .ok (.iaload, 1) := by decide +kernel
theorem dX6_reads_119 : decode cX6_reads 119 = .ok (.bipush 59, 2) := by decide +kernel
theorem dX6_reads_121 : decode cX6_reads 121 = .ok (.if_icmp .ne 7, 3) := by decide +kernel
theorem dX6_reads_124 : decode cX6_reads 124 = .ok (.iconst 3, 1) := by decide +kernel
theorem dX6_reads_125 : decode cX6_reads 125 = .ok (.goto 4, 3) := by decide +kernel
theorem dX6_reads_128 : decode cX6_reads 128 = .ok (.iconst 4, 1) := by decide +kernel
theorem dX6_reads_129 : decode cX6_reads 129 = .ok (.putfield 71, 3) := by decide +kernel
theorem dX6_reads_132 : decode cX6_reads 132 = .ok (.aload_n 0, 1) := by decide +kernel
theorem dX6_reads_133 : decode cX6_reads 133 = .ok (.dup, 1) := by decide +kernel
theorem dX6_reads_134 : decode cX6_reads 134 = .ok (.getfield 58, 3) := by decide +kernel
theorem dX6_reads_137 : decode cX6_reads 137 = .ok (.aload_n 0, 1) := by decide +kernel
theorem dX6_reads_138 : decode cX6_reads 138 = .ok (.getfield 71, 3) := by decide +kernel
theorem dX6_reads_141 : decode cX6_reads 141 = .ok (.iconst 3, 1) := by decide +kernel
theorem dX6_reads_142 : decode cX6_reads 142 = .ok (.if_icmp .ne 7, 3) := by decide +kernel
theorem dX6_reads_145 : decode cX6_reads 145 = .ok (.iconst 1, 1) := by decide +kernel
theorem dX6_reads_146 : decode cX6_reads 146 = .ok (.goto 4, 3) := by decide +kernel
theorem dX6_reads_149 : decode cX6_reads 149 = .ok (.iconst 0, 1) := by decide +kernel
theorem dX6_reads_150 : decode cX6_reads 150 = .ok (.iadd, 1) := by decide +kernel
theorem dX6_reads_151 : decode cX6_reads 151 = .ok (.putfield 58, 3) := by decide +kernel
theorem dX6_reads_154 : decode cX6_reads 154 = .ok (.return_, 1) := by decide +kernel
set_option maxRecDepth 20000 in
theorem ggX6_ends_X6_reads : GoodIn wsX6_ends wsX6_reads := goodIn_r _ [6, 7, 8, 9, 10, 1, 11, 12, 5, 13, 14, 15, 16, 17, 18, 19, 20, 21, 22, 23, 24, 25, 26, 27, 28, 29, 30, 31, 32, 33, 34, 35, 36, 37, 38, 39, 40, 41, 42, 43, 44, 45, 46, 47, 48] (by decide +kernel) (by decide +kernel)
set_option maxRecDepth 20000 in
theorem gX6_ends_X6_reads : GoodIn wsX6_ends (wsV RX6 83 RX6 yX6_reads wsX6_reads) := goodIn_app (goodIn_of _ (by decide +kernel)) ggX6_ends_X6_reads
theorem dX6_ends_0 : decode cX6_ends 0 = .ok (.aload_n 0, 1) := by decide +kernel
theorem dX6_ends_1 : decode cX6_ends 1 = .ok (.invokevirtual 83, 3) := by decide +kernel
theorem dX6_ends_4 : decode cX6_ends 4 = .ok (.aload_n 0, 1) := by decide +kernel
theorem dX6_ends_5 : decode cX6_ends 5 = .ok (.getfield 71, 3) := by decide +kernel
theorem dX6_ends_8 : decode cX6_ends 8 = .ok (.iconst 3, 1) := by decide +kernel
theorem dX6_ends_9 : decode cX6_ends 9 = .ok (.if_icmp .ne 7, 3) := by decide +kernel
theorem dX6_ends_12 : decode cX6_ends 12 = .ok (.iconst 1, 1) := by decide +kernel
theorem dX6_ends_13 : decode cX6_ends 13 = .ok (.goto 4, 3) := by decide +kernel
theorem dX6_ends_16 : decode cX6_ends 16 = .ok (.iconst 0, 1) := by decide +kernel
theorem dX6_ends_17 : decode cX6_ends 17 = .ok (.ireturn, 1) := by decide +kernel
theorem dX6_plain_0 : decode cX6_plain 0 = .ok (.iconst 0, 1) := by decide +kernel
theorem dX6_plain_1 : decode cX6_plain 1 = .ok (.istore_n 1, 1) := by decide +kernel
theorem dX6_plain_2 : decode cX6_plain 2 = .ok (.iload_n 1, 1) := by decide +kernel
theorem dX6_plain_3 : decode cX6_plain 3 = .ok (.bipush 51, 2) := by decide +kernel
theorem dX6_plain_5 : decode cX6_plain 5 = .ok (.if_icmp .ge 16, 3) := by decide +kernel
theorem dX6_plain_8 : decode cX6_plain 8 = .ok (.aload_n 0, 1) := by decide +kernel
theorem dX6_plain_9 : decode cX6_plain 9 = .ok (.getfield 13, 3) := by decide +kernel
theorem dX6_plain_12 : decode cX6_plain 12 = .ok (.iload_n 1, 1) := by decide +kernel
theorem dX6_plain_13 : decode cX6_plain 13 = .ok (.iconst 0, 1) := by decide +kernel
theorem dX6_plain_14 : decode cX6_plain 14 = .ok (.iastore, 1) := by decide +kernel
theorem dX6_plain_15 : decode cX6_plain 15 = .ok (.iinc 1 1, 3) := by decide +kernel
theorem dX6_plain_18 : decode cX6_plain 18 = .ok (.goto (-16), 3) := by decide +kernel
theorem dX6_plain_21 : decode cX6_plain 21 = .ok (.aload_n 0, 1) := by decide +kernel
theorem dX6_plain_22 : decode cX6_plain 22 = .ok (.getfield 13, 3) := by decide +kernel
theorem dX6_plain_25 : decode cX6_plain 25 = .ok (.iconst 2, 1) := by decide +kernel
theorem dX6_plain_26 : decode cX6_plain 26 = .ok (.iconst 3, 1) := by decide +kernel
theorem dX6_plain_27 : decode cX6_plain 27 = .ok (.iastore, 1) := by decide +kernel
theorem dX6_plain_28 : decode cX6_plain 28 = .ok (.aload_n 0, 1) := by decide +kernel
theorem dX6_plain_29 : decode cX6_plain 29 = .ok (.getfield 13, 3) := by decide +kernel
theorem dX6_plain_32 : decode cX6_plain 32 = .ok (.iconst 3, 1) := by decide +kernel
theorem dX6_plain_33 : decode cX6_plain 33 = .ok (.bipush 9, 2) := by decide +kernel
theorem dX6_plain_35 : decode cX6_plain 35 = .ok (.iastore, 1) := by decide +kernel
theorem dX6_plain_36 : decode cX6_plain 36 = .ok (.return_, 1) := by decide +kernel
set_option maxRecDepth 20000 in
theorem ggX6_number_X6_reads : GoodIn wsX6_number wsX6_reads := goodIn_r _ [8, 9, 10, 11, 12, 1, 13, 14, 7, 15, 16, 17, 18, 19, 20, 21, 22, 23, 24, 2, 25, 26, 27, 28, 29, 30, 31, 32, 33, 34, 35, 36, 37, 38, 39, 40, 41, 42, 43, 44, 45, 46, 47, 48, 49] (by decide +kernel) (by decide +kernel)
set_option maxRecDepth 20000 in
theorem gX6_number_X6_reads : GoodIn wsX6_number (wsV RX6 83 RX6 yX6_reads wsX6_reads) := goodIn_app (goodIn_of _ (by decide +kernel)) ggX6_number_X6_reads
set_option maxRecDepth 20000 in
theorem ggX6_number_X6_in : GoodIn wsX6_number wsX6_in := goodIn_r _ [20] (by decide +kernel) (by decide +kernel)
set_option maxRecDepth 20000 in
theorem gX6_number_X6_in : GoodIn wsX6_number (va_wsS RX6 42 yX6_in wsX6_in) := goodIn_app (goodIn_of _ (by decide +kernel)) ggX6_number_X6_in
theorem dX6_number_0 : decode cX6_number 0 = .ok (.aload_n 0, 1) := by decide +kernel
theorem dX6_number_1 : decode cX6_number 1 = .ok (.invokevirtual 83, 3) := by decide +kernel
theorem dX6_number_4 : decode cX6_number 4 = .ok (.aload_n 0, 1) := by decide +kernel
theorem dX6_number_5 : decode cX6_number 5 = .ok (.getfield 71, 3) := by decide +kernel
theorem dX6_number_8 : decode cX6_number 8 = .ok (.iconst 2, 1) := by decide +kernel
theorem dX6_number_9 : decode cX6_number 9 = .ok (.if_icmp .ne 22, 3) := by decide +kernel
theorem dX6_number_12 : decode cX6_number 12 = .ok (.aload_n 0, 1) := by decide +kernel
theorem dX6_number_13 : decode cX6_number 13 = .ok (.getfield 61, 3) := by decide +kernel
theorem dX6_number_16 : decode cX6_number 16 = .ok (.i2l, 1) := by decide +kernel
theorem dX6_number_17 : decode cX6_number 17 = .ok (.iload_n 2, 1) := by decide +kernel
theorem dX6_number_18 : decode cX6_number 18 = .ok (.i2l, 1) := by decide +kernel
theorem dX6_number_19 : decode cX6_number 19 = .ok (.iload_n 3, 1) := by decide +kernel
theorem dX6_number_20 : decode cX6_number 20 = .ok (.i2l, 1) := by decide +kernel
theorem dX6_number_21 : decode cX6_number 21 = .ok (.invokestatic 42, 3) := by decide +kernel
theorem dX6_number_24 : decode cX6_number 24 = .ok (.ifCond .eq 7, 3) := by decide +kernel
theorem dX6_number_27 : decode cX6_number 27 = .ok (.iconst 1, 1) := by decide +kernel
theorem dX6_number_28 : decode cX6_number 28 = .ok (.goto 4, 3) := by decide +kernel
theorem dX6_number_31 : decode cX6_number 31 = .ok (.iconst 0, 1) := by decide +kernel
theorem dX6_number_32 : decode cX6_number 32 = .ok (.istore 4, 2) := by decide +kernel
theorem dX6_number_34 : decode cX6_number 34 = .ok (.aload_n 0, 1) := by decide +kernel
theorem dX6_number_35 : decode cX6_number 35 = .ok (.getfield 13, 3) := by decide +kernel
theorem dX6_number_38 : decode cX6_number 38 = .ok (.iload_n 1, 1) := by decide +kernel
theorem dX6_number_39 : decode cX6_number 39 = .ok (.iload 4, 2) := by decide +kernel
theorem dX6_number_41 : decode cX6_number 41 = .ok (.ifCond .eq 10, 3) := by decide +kernel
theorem dX6_number_44 : decode cX6_number 44 = .ok (.aload_n 0, 1) := by decide +kernel
theorem dX6_number_45 : decode cX6_number 45 = .ok (.getfield 61, 3) := by decide +kernel
theorem dX6_number_48 : decode cX6_number 48 = .ok (.goto 9, 3) := by decide +kernel
theorem dX6_number_51 : decode cX6_number 51 = .ok (.aload_n 0, 1) := by decide +kernel
theorem dX6_number_52 : decode cX6_number 52 = .ok (.getfield 13, 3) := by decide +kernel
theorem dX6_number_55 : decode cX6_number 55 = .ok (.iload_n 1, 1) := by decide +kernel
theorem dX6_number_56 : decode cX6_number 56 = .ok (.iaload, 1) := by decide +kernel
theorem dX6_number_57 : decode cX6_number 57 = .ok (.iastore, 1) := by decide +kernel
theorem dX6_number_58 : decode cX6_number 58 = .ok (.iload 4, 2) := by decide +kernel
theorem dX6_number_60 : decode cX6_number 60 = .ok (.ireturn, 1) := by decide +kernel
set_option maxRecDepth 20000 in
theorem ggX6_readTree_X6_number : GoodIn wsX6_readTree wsX6_number := goodIn_r _ [6, 7, 8, 1, 9, 10, 11, 5, 12, 13, 14, 15, 16, 17, 18, 19, 20, 21, 22, 23, 24, 25, 26, 27, 28, 29, 30, 31, 32, 33, 34, 35, 36, 37, 42, 43, 44, 45, 46, 47, 48, 49, 50, 51, 52, 53, 54, 55, 56, 57] (by decide +kernel) (by decide +kernel)
set_option maxRecDepth 20000 in
theorem gX6_readTree_X6_number : GoodIn wsX6_readTree (wsV RX6 86 RX6 yX6_number wsX6_number) := goodIn_app (goodIn_of _ (by decide +kernel)) ggX6_readTree_X6_number
set_option maxRecDepth 20000 in
theorem ggX6_readTree_X6_ends : GoodIn wsX6_readTree wsX6_ends := goodIn_r _ [41, 7, 9, 10, 11, 5, 12, 13, 14, 15, 16, 17, 18, 19, 20, 21, 22, 23, 24, 25, 26, 27, 28, 8, 29, 30, 31, 32, 33, 34, 35, 36, 37, 42, 43, 44, 45, 46, 47, 48, 49, 50, 51, 52, 53, 54, 55, 56, 57] (by decide +kernel) (by decide +kernel)
set_option maxRecDepth 20000 in
theorem gX6_readTree_X6_ends : GoodIn wsX6_readTree (wsV RX6 90 RX6 yX6_ends wsX6_ends) := goodIn_app (goodIn_of _ (by decide +kernel)) ggX6_readTree_X6_ends
theorem dX6_readTree_0 : decode cX6_readTree 0 = .ok (.iconst 5, 1) := by decide +kernel
theorem dX6_readTree_1 : decode cX6_readTree 1 = .ok (.iconst 4, 1) := by decide +kernel
theorem dX6_readTree_2 : decode cX6_readTree 2 = .ok (.aload_n 0, 1) := by decide +kernel
theorem dX6_readTree_3 : decode cX6_readTree 3 = .ok (.getfield 13, 3) := by decide +kernel
theorem dX6_readTree_6 : decode cX6_readTree 6 = .ok (.iconst 0, 1) := by decide +kernel
theorem dX6_readTree_7 : decode cX6_readTree 7 = .ok (.iaload, 1) := by decide +kernel
theorem dX6_readTree_8 : decode cX6_readTree 8 = .ok (.imul, 1) := by decide +kernel
theorem dX6_readTree_9 : decode cX6_readTree 9 = .ok (.iadd, 1) := by decide +kernel
theorem dX6_readTree_10 : decode cX6_readTree 10 = .ok (.istore_n 1, 1) := by decide +kernel
theorem dX6_readTree_11 : decode cX6_readTree 11 = .ok (.aload_n 0, 1) := by decide +kernel
theorem dX6_readTree_12 : decode cX6_readTree 12 = .ok (.getfield 13, 3) := by decide +kernel
theorem dX6_readTree_15 : decode cX6_readTree 15 = .ok (.iconst 0, 1) := by decide +kernel
theorem dX6_readTree_16 : decode cX6_readTree 16 = .ok (.iaload, 1) := by decide +kernel
theorem dX6_readTree_17 : decode cX6_readTree 17 = .ok (.bipush 7, 2) := by decide +kernel
theorem dX6_readTree_19 : decode cX6_readTree 19 = .ok (.if_icmp .eq 52, 3) := by decide +kernel
theorem dX6_readTree_22 : decode cX6_readTree 22 = .ok (.aload_n 0, 1) := by decide +kernel
theorem dX6_readTree_23 : decode cX6_readTree 23 = .ok (.iload_n 1, 1) := by decide +kernel
theorem dX6_readTree_24 : decode cX6_readTree 24 = .ok (.iconst 0, 1) := by decide +kernel
theorem dX6_readTree_25 : decode cX6_readTree 25 = .ok (.bipush 9, 2) := by decide +kernel
theorem dX6_readTree_27 : decode cX6_readTree 27 = .ok (.invokevirtual 86, 3) := by decide +kernel
theorem dX6_readTree_30 : decode cX6_readTree 30 = .ok (.ifCond .eq 41, 3) := by decide +kernel
theorem dX6_readTree_33 : decode cX6_readTree 33 = .ok (.aload_n 0, 1) := by decide +kernel
theorem dX6_readTree_34 : decode cX6_readTree 34 = .ok (.iload_n 1, 1) := by decide +kernel
theorem dX6_readTree_35 : decode cX6_readTree 35 = .ok (.iconst 1, 1) := by decide +kernel
theorem dX6_readTree_36 : decode cX6_readTree 36 = .ok (.iadd, 1) := by decide +kernel
theorem dX6_readTree_37 : decode cX6_readTree 37 = .ok (.iconst 0, 1) := by decide +kernel
theorem dX6_readTree_38 : decode cX6_readTree 38 = .ok (.bipush 9, 2) := by decide +kernel
theorem dX6_readTree_40 : decode cX6_readTree 40 = .ok (.invokevirtual 86, 3) := by decide +kernel
theorem dX6_readTree_43 : decode cX6_readTree 43 = .ok (.ifCond .eq 28, 3) := by decide +kernel
theorem dX6_readTree_46 : decode cX6_readTree 46 = .ok (.aload_n 0, 1) := by decide +kernel
theorem dX6_readTree_47 : decode cX6_readTree 47 = .ok (.iload_n 1, 1) := by decide +kernel
theorem dX6_readTree_48 : decode cX6_readTree 48 = .ok (.iconst 2, 1) := by decide +kernel
theorem dX6_readTree_49 : decode cX6_readTree 49 = .ok (.iadd, 1) := by decide +kernel
theorem dX6_readTree_50 : decode cX6_readTree 50 = .ok (.iconst 1, 1) := by decide +kernel
theorem dX6_readTree_51 : decode cX6_readTree 51 = .ok (.bipush 60, 2) := by decide +kernel
theorem dX6_readTree_53 : decode cX6_readTree 53 = .ok (.invokevirtual 86, 3) := by decide +kernel
theorem dX6_readTree_56 : decode cX6_readTree 56 = .ok (.ifCond .eq 15, 3) := by decide +kernel
theorem dX6_readTree_59 : decode cX6_readTree 59 = .ok (.aload_n 0, 1) := by decide +kernel
theorem dX6_readTree_60 : decode cX6_readTree 60 = .ok (.iload_n 1, 1) := by decide +kernel
theorem dX6_readTree_61 : decode cX6_readTree 61 = .ok (.iconst 3, 1) := by decide +kernel
theorem dX6_readTree_62 : decode cX6_readTree 62 = .ok (.iadd, 1) := by decide +kernel
theorem dX6_readTree_63 : decode cX6_readTree 63 = .ok (.iconst 0, 1) := by decide +kernel
theorem dX6_readTree_64 : decode cX6_readTree 64 = .ok (.iconst 5, 1) := by decide +kernel
theorem dX6_readTree_65 : decode cX6_readTree 65 = .ok (.invokevirtual 86, 3) := by decide +kernel
theorem dX6_readTree_68 : decode cX6_readTree 68 = .ok (.ifCond .ne 5, 3) := by decide +kernel
theorem dX6_readTree_71 : decode cX6_readTree 71 = .ok (.iconst 0, 1) := by decide +kernel
theorem dX6_readTree_72 : decode cX6_readTree 72 = .ok (.ireturn, 1) := by decide +kernel
theorem dX6_readTree_73 : decode cX6_readTree 73 = .ok (.aload_n 0, 1) := by decide +kernel
theorem dX6_readTree_74 : decode cX6_readTree 74 = .ok (.getfield 13, 3) := by decide +kernel
theorem dX6_readTree_77 : decode cX6_readTree 77 = .ok (.iconst 0, 1) := by decide +kernel
theorem dX6_readTree_78 : decode cX6_readTree 78 = .ok (.dup2, 1) := by decide +kernel
theorem dX6_readTree_79 : decode cX6_readTree 79 = .ok (.iaload, 1) := by decide +kernel
theorem dX6_readTree_80 : decode cX6_readTree 80 = .ok (.iconst 1, 1) := by decide +kernel
theorem dX6_readTree_81 : decode cX6_readTree 81 = .ok (.iadd, 1) := by decide +kernel
theorem dX6_readTree_82 : decode cX6_readTree 82 = .ok (.iastore, 1) := by decide +kernel
theorem dX6_readTree_83 : decode cX6_readTree 83 = .ok (.aload_n 0, 1) := by decide +kernel
theorem dX6_readTree_84 : decode cX6_readTree 84 = .ok (.invokevirtual 90, 3) := by decide +kernel
theorem dX6_readTree_87 : decode cX6_readTree 87 = .ok (.ireturn, 1) := by decide +kernel
set_option maxRecDepth 20000 in
theorem ggX6_readHouse_X6_number : GoodIn wsX6_readHouse wsX6_number := goodIn_r _ [6, 7, 8, 1, 9, 10, 11, 5, 12, 13, 14, 15, 16, 17, 18, 19, 20, 21, 22, 23, 24, 25, 26, 27, 28, 29, 30, 31, 32, 33, 34, 35, 36, 37, 42, 43, 44, 45, 46, 47, 48, 49, 50, 51, 52, 53, 54, 55, 56, 57] (by decide +kernel) (by decide +kernel)
set_option maxRecDepth 20000 in
theorem gX6_readHouse_X6_number : GoodIn wsX6_readHouse (wsV RX6 86 RX6 yX6_number wsX6_number) := goodIn_app (goodIn_of _ (by decide +kernel)) ggX6_readHouse_X6_number
set_option maxRecDepth 20000 in
theorem ggX6_readHouse_X6_ends : GoodIn wsX6_readHouse wsX6_ends := goodIn_r _ [41, 7, 9, 10, 11, 5, 12, 13, 14, 15, 16, 17, 18, 19, 20, 21, 22, 23, 24, 25, 26, 27, 28, 8, 29, 30, 31, 32, 33, 34, 35, 36, 37, 42, 43, 44, 45, 46, 47, 48, 49, 50, 51, 52, 53, 54, 55, 56, 57] (by decide +kernel) (by decide +kernel)
set_option maxRecDepth 20000 in
theorem gX6_readHouse_X6_ends : GoodIn wsX6_readHouse (wsV RX6 90 RX6 yX6_ends wsX6_ends) := goodIn_app (goodIn_of _ (by decide +kernel)) ggX6_readHouse_X6_ends
theorem dX6_readHouse_0 : decode cX6_readHouse 0 = .ok (.bipush 33, 2) := by decide +kernel
theorem dX6_readHouse_2 : decode cX6_readHouse 2 = .ok (.iconst 3, 1) := by decide +kernel
theorem dX6_readHouse_3 : decode cX6_readHouse 3 = .ok (.aload_n 0, 1) := by decide +kernel
theorem dX6_readHouse_4 : decode cX6_readHouse 4 = .ok (.getfield 13, 3) := by decide +kernel
theorem dX6_readHouse_7 : decode cX6_readHouse 7 = .ok (.iconst 1, 1) := by decide +kernel
theorem dX6_readHouse_8 : decode cX6_readHouse 8 = .ok (.iaload, 1) := by decide +kernel
theorem dX6_readHouse_9 : decode cX6_readHouse 9 = .ok (.imul, 1) := by decide +kernel
theorem dX6_readHouse_10 : decode cX6_readHouse 10 = .ok (.iadd, 1) := by decide +kernel
theorem dX6_readHouse_11 : decode cX6_readHouse 11 = .ok (.istore_n 1, 1) := by decide +kernel
theorem dX6_readHouse_12 : decode cX6_readHouse 12 = .ok (.aload_n 0, 1) := by decide +kernel
theorem dX6_readHouse_13 : decode cX6_readHouse 13 = .ok (.getfield 13, 3) := by decide +kernel
theorem dX6_readHouse_16 : decode cX6_readHouse 16 = .ok (.iconst 1, 1) := by decide +kernel
theorem dX6_readHouse_17 : decode cX6_readHouse 17 = .ok (.iaload, 1) := by decide +kernel
theorem dX6_readHouse_18 : decode cX6_readHouse 18 = .ok (.bipush 6, 2) := by decide +kernel
theorem dX6_readHouse_20 : decode cX6_readHouse 20 = .ok (.if_icmp .eq 40, 3) := by decide +kernel
theorem dX6_readHouse_23 : decode cX6_readHouse 23 = .ok (.aload_n 0, 1) := by decide +kernel
theorem dX6_readHouse_24 : decode cX6_readHouse 24 = .ok (.iload_n 1, 1) := by decide +kernel
theorem dX6_readHouse_25 : decode cX6_readHouse 25 = .ok (.iconst 0, 1) := by decide +kernel
theorem dX6_readHouse_26 : decode cX6_readHouse 26 = .ok (.bipush 9, 2) := by decide +kernel
theorem dX6_readHouse_28 : decode cX6_readHouse 28 = .ok (.invokevirtual 86, 3) := by decide +kernel
theorem dX6_readHouse_31 : decode cX6_readHouse 31 = .ok (.ifCond .eq 29, 3) := by decide +kernel
theorem dX6_readHouse_34 : decode cX6_readHouse 34 = .ok (.aload_n 0, 1) := by decide +kernel
theorem dX6_readHouse_35 : decode cX6_readHouse 35 = .ok (.iload_n 1, 1) := by decide +kernel
theorem dX6_readHouse_36 : decode cX6_readHouse 36 = .ok (.iconst 1, 1) := by decide +kernel
theorem dX6_readHouse_37 : decode cX6_readHouse 37 = .ok (.iadd, 1) := by decide +kernel
theorem dX6_readHouse_38 : decode cX6_readHouse 38 = .ok (.iconst 0, 1) := by decide +kernel
theorem dX6_readHouse_39 : decode cX6_readHouse 39 = .ok (.bipush 9, 2) := by decide +kernel
theorem dX6_readHouse_41 : decode cX6_readHouse 41 = .ok (.invokevirtual 86, 3) := by decide +kernel
theorem dX6_readHouse_44 : decode cX6_readHouse 44 = .ok (.ifCond .eq 16, 3) := by decide +kernel
theorem dX6_readHouse_47 : decode cX6_readHouse 47 = .ok (.aload_n 0, 1) := by decide +kernel
theorem dX6_readHouse_48 : decode cX6_readHouse 48 = .ok (.iload_n 1, 1) := by decide +kernel
theorem dX6_readHouse_49 : decode cX6_readHouse 49 = .ok (.iconst 2, 1) := by decide +kernel
theorem dX6_readHouse_50 : decode cX6_readHouse 50 = .ok (.iadd, 1) := by decide +kernel
theorem dX6_readHouse_51 : decode cX6_readHouse 51 = .ok (.iconst 1, 1) := by decide +kernel
theorem dX6_readHouse_52 : decode cX6_readHouse 52 = .ok (.bipush 60, 2) := by decide +kernel
theorem dX6_readHouse_54 : decode cX6_readHouse 54 = .ok (.invokevirtual 86, 3) := by decide +kernel
theorem dX6_readHouse_57 : decode cX6_readHouse 57 = .ok (.ifCond .ne 5, 3) := by decide +kernel
theorem dX6_readHouse_60 : decode cX6_readHouse 60 = .ok (.iconst 0, 1) := by decide +kernel
theorem dX6_readHouse_61 : decode cX6_readHouse 61 = .ok (.ireturn, 1) := by decide +kernel
theorem dX6_readHouse_62 : decode cX6_readHouse 62 = .ok (.aload_n 0, 1) := by decide +kernel
theorem dX6_readHouse_63 : decode cX6_readHouse 63 = .ok (.getfield 13, 3) := by decide +kernel
theorem dX6_readHouse_66 : decode cX6_readHouse 66 = .ok (.iconst 1, 1) := by decide +kernel
theorem dX6_readHouse_67 : decode cX6_readHouse 67 = .ok (.dup2, 1) := by decide +kernel
theorem dX6_readHouse_68 : decode cX6_readHouse 68 = .ok (.iaload, 1) := by decide +kernel
theorem dX6_readHouse_69 : decode cX6_readHouse 69 = .ok (.iconst 1, 1) := by decide +kernel
theorem dX6_readHouse_70 : decode cX6_readHouse 70 = .ok (.iadd, 1) := by decide +kernel
theorem dX6_readHouse_71 : decode cX6_readHouse 71 = .ok (.iastore, 1) := by decide +kernel
theorem dX6_readHouse_72 : decode cX6_readHouse 72 = .ok (.aload_n 0, 1) := by decide +kernel
theorem dX6_readHouse_73 : decode cX6_readHouse 73 = .ok (.invokevirtual 90, 3) := by decide +kernel
theorem dX6_readHouse_76 : decode cX6_readHouse 76 = .ok (.ireturn, 1) := by decide +kernel
set_option maxRecDepth 20000 in
theorem ggX6_once_X6_number : GoodIn wsX6_once wsX6_number := goodIn_r _ [6, 7, 8, 1, 9, 10, 11, 5, 12, 13, 14, 15, 16, 17, 18, 19, 20, 21, 22, 23, 24, 25, 26, 27, 28, 29, 30, 31, 32, 33, 34, 35, 36, 37, 42, 43, 44, 45, 46, 47, 48, 49, 50, 51, 52, 53, 54, 55, 56, 57] (by decide +kernel) (by decide +kernel)
set_option maxRecDepth 20000 in
theorem gX6_once_X6_number : GoodIn wsX6_once (wsV RX6 86 RX6 yX6_number wsX6_number) := goodIn_app (goodIn_of _ (by decide +kernel)) ggX6_once_X6_number
set_option maxRecDepth 20000 in
theorem ggX6_once_X6_ends : GoodIn wsX6_once wsX6_ends := goodIn_r _ [41, 7, 9, 10, 11, 5, 12, 13, 14, 15, 16, 17, 18, 19, 20, 21, 22, 23, 24, 25, 26, 27, 28, 8, 29, 30, 31, 32, 33, 34, 35, 36, 37, 42, 43, 44, 45, 46, 47, 48, 49, 50, 51, 52, 53, 54, 55, 56, 57] (by decide +kernel) (by decide +kernel)
set_option maxRecDepth 20000 in
theorem gX6_once_X6_ends : GoodIn wsX6_once (wsV RX6 90 RX6 yX6_ends wsX6_ends) := goodIn_app (goodIn_of _ (by decide +kernel)) ggX6_once_X6_ends
theorem dX6_once_0 : decode cX6_once 0 = .ok (.aload_n 0, 1) := by decide +kernel
theorem dX6_once_1 : decode cX6_once 1 = .ok (.getfield 13, 3) := by decide +kernel
theorem dX6_once_4 : decode cX6_once 4 = .ok (.iconst 4, 1) := by decide +kernel
theorem dX6_once_5 : decode cX6_once 5 = .ok (.iaload, 1) := by decide +kernel
theorem dX6_once_6 : decode cX6_once 6 = .ok (.iload_n 1, 1) := by decide +kernel
theorem dX6_once_7 : decode cX6_once 7 = .ok (.iand, 1) := by decide +kernel
theorem dX6_once_8 : decode cX6_once 8 = .ok (.ifCond .ne 14, 3) := by decide +kernel
theorem dX6_once_11 : decode cX6_once 11 = .ok (.aload_n 0, 1) := by decide +kernel
theorem dX6_once_12 : decode cX6_once 12 = .ok (.iload_n 2, 1) := by decide +kernel
theorem dX6_once_13 : decode cX6_once 13 = .ok (.iconst 1, 1) := by decide +kernel
theorem dX6_once_14 : decode cX6_once 14 = .ok (.bipush 9, 2) := by decide +kernel
theorem dX6_once_16 : decode cX6_once 16 = .ok (.invokevirtual 86, 3) := by decide +kernel
theorem dX6_once_19 : decode cX6_once 19 = .ok (.ifCond .ne 5, 3) := by decide +kernel
theorem dX6_once_22 : decode cX6_once 22 = .ok (.iconst 0, 1) := by decide +kernel
theorem dX6_once_23 : decode cX6_once 23 = .ok (.ireturn, 1) := by decide +kernel
theorem dX6_once_24 : decode cX6_once 24 = .ok (.aload_n 0, 1) := by decide +kernel
theorem dX6_once_25 : decode cX6_once 25 = .ok (.getfield 13, 3) := by decide +kernel
theorem dX6_once_28 : decode cX6_once 28 = .ok (.iconst 4, 1) := by decide +kernel
theorem dX6_once_29 : decode cX6_once 29 = .ok (.dup2, 1) := by decide +kernel
theorem dX6_once_30 : decode cX6_once 30 = .ok (.iaload, 1) := by decide +kernel
theorem dX6_once_31 : decode cX6_once 31 = .ok (.iload_n 1, 1) := by decide +kernel
theorem dX6_once_32 : decode cX6_once 32 = .ok (.ior, 1) := by decide +kernel
theorem dX6_once_33 : decode cX6_once 33 = .ok (.iastore, 1) := by decide +kernel
theorem dX6_once_34 : decode cX6_once 34 = .ok (.aload_n 0, 1) := by decide +kernel
theorem dX6_once_35 : decode cX6_once 35 = .ok (.invokevirtual 90, 3) := by decide +kernel
theorem dX6_once_38 : decode cX6_once 38 = .ok (.ireturn, 1) := by decide +kernel
set_option maxRecDepth 20000 in
theorem ggX6_readItem_X6_readTree : GoodIn wsX6_readItem wsX6_readTree := goodIn_r _ [7, 8, 9, 10, 11, 6, 12, 1, 2, 13, 14, 15, 16, 17, 18, 19, 20, 21, 22, 23, 24, 25, 26, 27, 28, 29, 30, 31, 32, 33, 34, 35, 36, 37, 38, 39, 40, 41, 42, 43, 44, 45, 54, 55, 56, 57, 58, 59, 60, 61, 62, 63, 64, 65, 66, 67, 68, 69] (by decide +kernel) (by decide +kernel)
set_option maxRecDepth 20000 in
theorem gX6_readItem_X6_readTree : GoodIn wsX6_readItem (wsV RX6 94 RX6 yX6_readTree wsX6_readTree) := goodIn_app (goodIn_of _ (by decide +kernel)) ggX6_readItem_X6_readTree
set_option maxRecDepth 20000 in
theorem ggX6_readItem_X6_readHouse : GoodIn wsX6_readItem wsX6_readHouse := goodIn_r _ [49, 8, 9, 10, 11, 6, 12, 1, 2, 13, 14, 15, 16, 17, 18, 19, 20, 21, 22, 23, 24, 25, 26, 27, 28, 29, 30, 31, 32, 33, 34, 35, 36, 37, 38, 39, 40, 41, 42, 43, 44, 45, 54, 55, 56, 57, 58, 59, 60, 61, 62, 63, 64, 65, 66, 67, 68, 69] (by decide +kernel) (by decide +kernel)
set_option maxRecDepth 20000 in
theorem gX6_readItem_X6_readHouse : GoodIn wsX6_readItem (wsV RX6 97 RX6 yX6_readHouse wsX6_readHouse) := goodIn_app (goodIn_of _ (by decide +kernel)) ggX6_readItem_X6_readHouse
set_option maxRecDepth 20000 in
theorem ggX6_readItem_X6_once : GoodIn wsX6_readItem wsX6_once := goodIn_r _ [53, 8, 9, 10, 11, 6, 12, 1, 2, 13, 14, 15, 16, 17, 18, 19, 20, 21, 22, 23, 24, 25, 26, 27, 28, 29, 30, 31, 32, 33, 34, 35, 36, 37, 38, 39, 40, 41, 42, 43, 44, 45, 54, 55, 56, 57, 58, 59, 60, 61, 62, 63, 64, 65, 66, 67, 68, 69] (by decide +kernel) (by decide +kernel)
set_option maxRecDepth 20000 in
theorem gX6_readItem_X6_once : GoodIn wsX6_readItem (wsV RX6 100 RX6 yX6_once wsX6_once) := goodIn_app (goodIn_of _ (by decide +kernel)) ggX6_readItem_X6_once
theorem dX6_readItem_0 : decode cX6_readItem 0 = .ok (.aload_n 0, 1) := by decide +kernel
theorem dX6_readItem_1 : decode cX6_readItem 1 = .ok (.getfield 71, 3) := by decide +kernel
theorem dX6_readItem_4 : decode cX6_readItem 4 = .ok (.iconst 1, 1) := by decide +kernel
theorem dX6_readItem_5 : decode cX6_readItem 5 = .ok (.if_icmp .eq 5, 3) := by decide +kernel
theorem dX6_readItem_8 : decode cX6_readItem 8 = .ok (.iconst 0, 1) := by decide +kernel
theorem dX6_readItem_9 : decode cX6_readItem 9 = .ok (.ireturn, 1) := by decide +kernel
theorem dX6_readItem_10 : decode cX6_readItem 10 = .ok (.aload_n 0, 1) := by decide +kernel
theorem dX6_readItem_11 : decode cX6_readItem 11 = .ok (.getfield 61, 3) := by decide +kernel
theorem dX6_readItem_14 : decode cX6_readItem 14 = .ok (.lookupswitch 51 #[(104, 39), (114, 44), (116, 34)], 34) := by decide +kernel
theorem dX6_readItem_48 : decode cX6_readItem 48 = .ok (.aload_n 0, 1) := by decide +kernel
theorem dX6_readItem_49 : decode cX6_readItem 49 = .ok (.invokevirtual 94, 3) := by decide +kernel
theorem dX6_readItem_52 : decode cX6_readItem 52 = .ok (.ireturn, 1) := by decide +kernel
theorem dX6_readItem_53 : decode cX6_readItem 53 = .ok (.aload_n 0, 1) := by decide +kernel
theorem dX6_readItem_54 : decode cX6_readItem 54 = .ok (.invokevirtual 97, 3) := by decide +kernel
theorem dX6_readItem_57 : decode cX6_readItem 57 = .ok (.ireturn, 1) := by decide +kernel
theorem dX6_readItem_58 : decode cX6_readItem 58 = .ok (.aload_n 0, 1) := by decide +kernel
theorem dX6_readItem_59 : decode cX6_readItem 59 = .ok (.iconst 1, 1) := by decide +kernel
theorem dX6_readItem_60 : decode cX6_readItem 60 = .ok (.iconst 2, 1) := by decide +kernel
theorem dX6_readItem_61 : decode cX6_readItem 61 = .ok (.invokevirtual 100, 3) := by decide +kernel
theorem dX6_readItem_64 : decode cX6_readItem 64 = .ok (.ireturn, 1) := by decide +kernel
theorem dX6_readItem_65 : decode cX6_readItem 65 = .ok (.aload_n 0, 1) := by decide +kernel
theorem dX6_readItem_66 : decode cX6_readItem 66 = .ok (.iconst 2, 1) := by decide +kernel
theorem dX6_readItem_67 : decode cX6_readItem 67 = .ok (.iconst 3, 1) := by decide +kernel
theorem dX6_readItem_68 : decode cX6_readItem 68 = .ok (.invokevirtual 100, 3) := by decide +kernel
theorem dX6_readItem_71 : decode cX6_readItem 71 = .ok (.ireturn, 1) := by decide +kernel
set_option maxRecDepth 20000 in
theorem ggX6_field_X6_plain : GoodIn wsX6_field wsX6_plain := goodIn_r _ [9, 10, 71, 72, 73, 74, 75, 76, 77, 78, 79, 80, 81, 82, 83, 84, 85, 86] (by decide +kernel) (by decide +kernel)
set_option maxRecDepth 20000 in
theorem gX6_field_X6_plain : GoodIn wsX6_field (wsV RX6 34 RX6 yX6_plain wsX6_plain) := goodIn_app (goodIn_of _ (by decide +kernel)) ggX6_field_X6_plain
set_option maxRecDepth 20000 in
theorem ggX6_field_X6_reads : GoodIn wsX6_field wsX6_reads := goodIn_r _ [14, 1, 4, 15, 3, 2, 16, 17, 8, 18, 19, 20, 21, 22, 23, 24, 25, 26, 27, 28, 29, 30, 31, 32, 33, 34, 35, 36, 37, 71, 72, 73, 74, 75, 76, 77, 78, 79, 80, 81, 82, 83, 84, 85, 86] (by decide +kernel) (by decide +kernel)
set_option maxRecDepth 20000 in
theorem gX6_field_X6_reads : GoodIn wsX6_field (wsV RX6 83 RX6 yX6_reads wsX6_reads) := goodIn_app (goodIn_of _ (by decide +kernel)) ggX6_field_X6_reads
set_option maxRecDepth 20000 in
theorem ggX6_field_X6_readItem : GoodIn wsX6_field wsX6_readItem := goodIn_r _ [41, 2, 28, 42, 43, 44, 8, 45, 10, 46, 47, 48, 49, 11, 12, 13, 14, 1, 4, 15, 3, 16, 17, 18, 19, 20, 21, 22, 23, 24, 25, 26, 27, 29, 30, 31, 32, 33, 34, 35, 36, 37, 50, 51, 52, 53, 54, 55, 56, 57, 58, 59, 60, 61, 71, 72, 73, 74, 75, 76, 77, 78, 79, 80, 81, 82, 83, 84, 85, 86] (by decide +kernel) (by decide +kernel)
set_option maxRecDepth 20000 in
theorem gX6_field_X6_readItem : GoodIn wsX6_field (wsV RX6 104 RX6 yX6_readItem wsX6_readItem) := goodIn_app (goodIn_of _ (by decide +kernel)) ggX6_field_X6_readItem
set_option maxRecDepth 20000 in
theorem ggX6_field_X6_takes : GoodIn wsX6_field wsX6_takes := goodIn_r _ [65, 66, 10, 67, 68, 69, 70, 71, 72, 73, 74, 75, 76, 77, 78, 79, 80, 81, 82, 83, 84, 85, 86] (by decide +kernel) (by decide +kernel)
set_option maxRecDepth 20000 in
theorem gX6_field_X6_takes : GoodIn wsX6_field (wsV RX6 37 RX6 yX6_takes wsX6_takes) := goodIn_app (goodIn_of _ (by decide +kernel)) ggX6_field_X6_takes
theorem dX6_field_0 : decode cX6_field 0 = .ok (.aload_n 0, 1) := by decide +kernel
theorem dX6_field_1 : decode cX6_field 1 = .ok (.invokevirtual 34, 3) := by decide +kernel
theorem dX6_field_4 : decode cX6_field 4 = .ok (.aload_n 0, 1) := by decide +kernel
theorem dX6_field_5 : decode cX6_field 5 = .ok (.iconst 0, 1) := by decide +kernel
theorem dX6_field_6 : decode cX6_field 6 = .ok (.putfield 58, 3) := by decide +kernel
theorem dX6_field_9 : decode cX6_field 9 = .ok (.iconst 0, 1) := by decide +kernel
theorem dX6_field_10 : decode cX6_field 10 = .ok (.istore_n 1, 1) := by decide +kernel
theorem dX6_field_11 : decode cX6_field 11 = .ok (.aload_n 0, 1) := by decide +kernel
theorem dX6_field_12 : decode cX6_field 12 = .ok (.invokevirtual 83, 3) := by decide +kernel
theorem dX6_field_15 : decode cX6_field 15 = .ok (.aload_n 0, 1) := by decide +kernel
theorem dX6_field_16 : decode cX6_field 16 = .ok (.getfield 71, 3) := by decide +kernel
theorem dX6_field_19 : decode cX6_field 19 = .ok (.ifCond .eq 28, 3) := by decide +kernel
theorem dX6_field_22 : decode cX6_field 22 = .ok (.aload_n 0, 1) := by decide +kernel
theorem dX6_field_23 : decode cX6_field 23 = .ok (.invokevirtual 104, 3) := by decide +kernel
theorem dX6_field_26 : decode cX6_field 26 = .ok (.ifCond .ne 11, 3) := by decide +kernel
theorem dX6_field_29 : decode cX6_field 29 = .ok (.bipush (-10), 2) := by decide +kernel
theorem dX6_field_31 : decode cX6_field 31 = .ok (.aload_n 0, 1) := by decide +kernel
theorem dX6_field_32 : decode cX6_field 32 = .ok (.getfield 68, 3) := by decide +kernel
theorem dX6_field_35 : decode cX6_field 35 = .ok (.isub, 1) := by decide +kernel
theorem dX6_field_36 : decode cX6_field 36 = .ok (.ireturn, 1) := by decide +kernel
theorem dX6_field_37 : decode cX6_field 37 = .ok (.iinc 1 1, 3) := by decide +kernel
theorem dX6_field_40 : decode cX6_field 40 = .ok (.aload_n 0, 1) := by decide +kernel
theorem dX6_field_41 : decode cX6_field 41 = .ok (.invokevirtual 83, 3) := by decide +kernel
theorem dX6_field_44 : decode cX6_field 44 = .ok (.goto (-29), 3) := by decide +kernel
theorem dX6_field_47 : decode cX6_field 47 = .ok (.aload_n 0, 1) := by decide +kernel
theorem dX6_field_48 : decode cX6_field 48 = .ok (.iconst 0, 1) := by decide +kernel
theorem dX6_field_49 : decode cX6_field 49 = .ok (.putfield 46, 3) := by decide +kernel
theorem dX6_field_52 : decode cX6_field 52 = .ok (.aload_n 0, 1) := by decide +kernel
theorem dX6_field_53 : decode cX6_field 53 = .ok (.invokevirtual 37, 3) := by decide +kernel
theorem dX6_field_56 : decode cX6_field 56 = .ok (.iload_n 1, 1) := by decide +kernel
theorem dX6_field_57 : decode cX6_field 57 = .ok (.ireturn, 1) := by decide +kernel
theorem dX6_takes_0 : decode cX6_takes 0 = .ok (.iconst 0, 1) := by decide +kernel
theorem dX6_takes_1 : decode cX6_takes 1 = .ok (.istore_n 1, 1) := by decide +kernel
theorem dX6_takes_2 : decode cX6_takes 2 = .ok (.iload_n 1, 1) := by decide +kernel
theorem dX6_takes_3 : decode cX6_takes 3 = .ok (.bipush 51, 2) := by decide +kernel
theorem dX6_takes_5 : decode cX6_takes 5 = .ok (.if_icmp .ge 21, 3) := by decide +kernel
theorem dX6_takes_8 : decode cX6_takes 8 = .ok (.aload_n 0, 1) := by decide +kernel
theorem dX6_takes_9 : decode cX6_takes 9 = .ok (.getfield 16, 3) := by decide +kernel
theorem dX6_takes_12 : decode cX6_takes 12 = .ok (.iload_n 1, 1) := by decide +kernel
theorem dX6_takes_13 : decode cX6_takes 13 = .ok (.aload_n 0, 1) := by decide +kernel
theorem dX6_takes_14 : decode cX6_takes 14 = .ok (.getfield 13, 3) := by decide +kernel
theorem dX6_takes_17 : decode cX6_takes 17 = .ok (.iload_n 1, 1) := by decide +kernel
theorem dX6_takes_18 : decode cX6_takes 18 = .ok (.iaload, 1) := by decide +kernel
theorem dX6_takes_19 : decode cX6_takes 19 = .ok (.iastore, 1) := by decide +kernel
theorem dX6_takes_20 : decode cX6_takes 20 = .ok (.iinc 1 1, 3) := by decide +kernel
theorem dX6_takes_23 : decode cX6_takes 23 = .ok (.goto (-21), 3) := by decide +kernel
theorem dX6_takes_26 : decode cX6_takes 26 = .ok (.iconst 0, 1) := by decide +kernel
theorem dX6_takes_27 : decode cX6_takes 27 = .ok (.istore_n 1, 1) := by decide +kernel
theorem dX6_takes_28 : decode cX6_takes 28 = .ok (.iload_n 1, 1) := by decide +kernel
theorem dX6_takes_29 : decode cX6_takes 29 = .ok (.bipush 43, 2) := by decide +kernel
theorem dX6_takes_31 : decode cX6_takes 31 = .ok (.if_icmp .ge 16, 3) := by decide +kernel
theorem dX6_takes_34 : decode cX6_takes 34 = .ok (.aload_n 0, 1) := by decide +kernel
theorem dX6_takes_35 : decode cX6_takes 35 = .ok (.getfield 19, 3) := by decide +kernel
theorem dX6_takes_38 : decode cX6_takes 38 = .ok (.iload_n 1, 1) := by decide +kernel
theorem dX6_takes_39 : decode cX6_takes 39 = .ok (.iconst 0, 1) := by decide +kernel
theorem dX6_takes_40 : decode cX6_takes 40 = .ok (.iastore, 1) := by decide +kernel
theorem dX6_takes_41 : decode cX6_takes 41 = .ok (.iinc 1 1, 3) := by decide +kernel
theorem dX6_takes_44 : decode cX6_takes 44 = .ok (.goto (-16), 3) := by decide +kernel
theorem dX6_takes_47 : decode cX6_takes 47 = .ok (.aload_n 0, 1) := by decide +kernel
theorem dX6_takes_48 : decode cX6_takes 48 = .ok (.getfield 19, 3) := by decide +kernel
theorem dX6_takes_51 : decode cX6_takes 51 = .ok (.iconst 1, 1) := by decide +kernel
theorem dX6_takes_52 : decode cX6_takes 52 = .ok (.aload_n 0, 1) := by decide +kernel
theorem dX6_takes_53 : decode cX6_takes 53 = .ok (.getfield 16, 3) := by decide +kernel
theorem dX6_takes_56 : decode cX6_takes 56 = .ok (.iconst 0, 1) := by decide +kernel
theorem dX6_takes_57 : decode cX6_takes 57 = .ok (.iaload, 1) := by decide +kernel
theorem dX6_takes_58 : decode cX6_takes 58 = .ok (.iastore, 1) := by decide +kernel
theorem dX6_takes_59 : decode cX6_takes 59 = .ok (.iconst 0, 1) := by decide +kernel
theorem dX6_takes_60 : decode cX6_takes 60 = .ok (.istore_n 1, 1) := by decide +kernel
theorem dX6_takes_61 : decode cX6_takes 61 = .ok (.iload_n 1, 1) := by decide +kernel
theorem dX6_takes_62 : decode cX6_takes 62 = .ok (.aload_n 0, 1) := by decide +kernel
theorem dX6_takes_63 : decode cX6_takes 63 = .ok (.getfield 16, 3) := by decide +kernel
theorem dX6_takes_66 : decode cX6_takes 66 = .ok (.iconst 0, 1) := by decide +kernel
theorem dX6_takes_67 : decode cX6_takes 67 = .ok (.iaload, 1) := by decide +kernel
theorem dX6_takes_68 : decode cX6_takes 68 = .ok (.if_icmp .ge 46, 3) := by decide +kernel
theorem dX6_takes_71 : decode cX6_takes 71 = .ok (.iconst 0, 1) := by decide +kernel
theorem dX6_takes_72 : decode cX6_takes 72 = .ok (.istore_n 2, 1) := by decide +kernel
theorem dX6_takes_73 : decode cX6_takes 73 = .ok (.iload_n 2, 1) := by decide +kernel
theorem dX6_takes_74 : decode cX6_takes 74 = .ok (.iconst 4, 1) := by decide +kernel
theorem dX6_takes_75 : decode cX6_takes 75 = .ok (.if_icmp .ge 33, 3) := by decide +kernel
theorem dX6_takes_78 : decode cX6_takes 78 = .ok (.aload_n 0, 1) := by decide +kernel
theorem dX6_takes_79 : decode cX6_takes 79 = .ok (.getfield 19, 3) := by decide +kernel
theorem dX6_takes_82 : decode cX6_takes 82 = .ok (.iconst 2, 1) := by decide +kernel
theorem dX6_takes_83 : decode cX6_takes 83 = .ok (.iconst 5, 1) := by decide +kernel
theorem dX6_takes_84 : decode cX6_takes 84 = .ok (.iload_n 1, 1) := by decide +kernel
theorem dX6_takes_85 : decode cX6_takes 85 = .ok (.imul, 1) := by decide +kernel
theorem dX6_takes_86 : decode cX6_takes 86 = .ok (.iadd, 1) := by decide +kernel
theorem dX6_takes_87 : decode cX6_takes 87 = .ok (.iload_n 2, 1) := by decide +kernel
theorem dX6_takes_88 : decode cX6_takes 88 = .ok (.iadd, 1) := by decide +kernel
theorem dX6_takes_89 : decode cX6_takes 89 = .ok (.aload_n 0, 1) := by decide +kernel
theorem dX6_takes_90 : decode cX6_takes 90 = .ok (.getfield 16, 3) := by decide +kernel
theorem dX6_takes_93 : decode cX6_takes 93 = .ok (.iconst 5, 1) := by decide +kernel
theorem dX6_takes_94 : decode cX6_takes 94 = .ok (.iconst 4, 1) := by decide +kernel
theorem dX6_takes_95 : decode cX6_takes 95 = .ok (.iload_n 1, 1) := by decide +kernel
theorem dX6_takes_96 : decode cX6_takes 96 = .ok (.imul, 1) := by decide +kernel
theorem dX6_takes_97 : decode cX6_takes 97 = .ok (.iadd, 1) := by decide +kernel
theorem dX6_takes_98 : decode cX6_takes 98 = .ok (.iload_n 2, 1) := by decide +kernel
theorem dX6_takes_99 : decode cX6_takes 99 = .ok (.iadd, 1) := by decide +kernel
theorem dX6_takes_100 : decode cX6_takes 100 = .ok (.iaload, 1) := by decide +kernel
theorem dX6_takes_101 : decode cX6_takes 101 = .ok (.iastore, 1) := by decide +kernel
theorem dX6_takes_102 : decode cX6_takes 102 = .ok (.iinc 2 1, 3) := by decide +kernel
theorem dX6_takes_105 : decode cX6_takes 105 = .ok (.goto (-32), 3) := by decide +kernel
theorem dX6_takes_108 : decode cX6_takes 108 = .ok (.iinc 1 1, 3) := by decide +kernel
theorem dX6_takes_111 : decode cX6_takes 111 = .ok (.goto (-50), 3) := by decide +kernel
theorem dX6_takes_114 : decode cX6_takes 114 = .ok (.aload_n 0, 1) := by decide +kernel
theorem dX6_takes_115 : decode cX6_takes 115 = .ok (.bipush (-9), 2) := by decide +kernel
theorem dX6_takes_117 : decode cX6_takes 117 = .ok (.putfield 107, 3) := by decide +kernel
theorem dX6_takes_120 : decode cX6_takes 120 = .ok (.aload_n 0, 1) := by decide +kernel
theorem dX6_takes_121 : decode cX6_takes 121 = .ok (.iconst 0, 1) := by decide +kernel
theorem dX6_takes_122 : decode cX6_takes 122 = .ok (.putfield 110, 3) := by decide +kernel
theorem dX6_takes_125 : decode cX6_takes 125 = .ok (.aload_n 0, 1) := by decide +kernel
theorem dX6_takes_126 : decode cX6_takes 126 = .ok (.getfield 31, 3) := by decide +kernel
theorem dX6_takes_129 : decode cX6_takes 129 = .ok (.iconst 0, 1) := by decide +kernel
theorem dX6_takes_130 : decode cX6_takes 130 = .ok (.iconst 0, 1) := by decide +kernel
theorem dX6_takes_131 : decode cX6_takes 131 = .ok (.iastore, 1) := by decide +kernel
theorem dX6_takes_132 : decode cX6_takes 132 = .ok (.aload_n 0, 1) := by decide +kernel
theorem dX6_takes_133 : decode cX6_takes 133 = .ok (.getfield 31, 3) := by decide +kernel
theorem dX6_takes_136 : decode cX6_takes 136 = .ok (.sipush 475, 3) := by decide +kernel
theorem dX6_takes_139 : decode cX6_takes 139 = .ok (.iconst 0, 1) := by decide +kernel
theorem dX6_takes_140 : decode cX6_takes 140 = .ok (.iastore, 1) := by decide +kernel
theorem dX6_takes_141 : decode cX6_takes 141 = .ok (.return_, 1) := by decide +kernel
set_option maxRecDepth 20000 in
theorem ggX6_isTree_X6_in : GoodIn wsX6_isTree wsX6_in := goodIn_r _ [5] (by decide +kernel) (by decide +kernel)
set_option maxRecDepth 20000 in
theorem gX6_isTree_X6_in : GoodIn wsX6_isTree (va_wsS RX6 42 yX6_in wsX6_in) := goodIn_app (goodIn_of _ (by decide +kernel)) ggX6_isTree_X6_in
theorem dX6_isTree_0 : decode cX6_isTree 0 = .ok (.iload_n 1, 1) := by decide +kernel
theorem dX6_isTree_1 : decode cX6_isTree 1 = .ok (.i2l, 1) := by decide +kernel
theorem dX6_isTree_2 : decode cX6_isTree 2 = .ok (.lconst 0, 1) := by decide +kernel
theorem dX6_isTree_3 : decode cX6_isTree 3 = .ok (.aload_n 0, 1) := by decide +kernel
theorem dX6_isTree_4 : decode cX6_isTree 4 = .ok (.getfield 19, 3) := by decide +kernel
theorem dX6_isTree_7 : decode cX6_isTree 7 = .ok (.iconst 1, 1) := by decide +kernel
theorem dX6_isTree_8 : decode cX6_isTree 8 = .ok (.iaload, 1) := by decide +kernel
theorem dX6_isTree_9 : decode cX6_isTree 9 = .ok (.iconst 1, 1) := by decide +kernel
theorem dX6_isTree_10 : decode cX6_isTree 10 = .ok (.isub, 1) := by decide +kernel
theorem dX6_isTree_11 : decode cX6_isTree 11 = .ok (.i2l, 1) := by decide +kernel
theorem dX6_isTree_12 : decode cX6_isTree 12 = .ok (.invokestatic 42, 3) := by decide +kernel
theorem dX6_isTree_15 : decode cX6_isTree 15 = .ok (.ireturn, 1) := by decide +kernel
set_option maxRecDepth 20000 in
theorem ggX6_isHouse_X6_in : GoodIn wsX6_isHouse wsX6_in := goodIn_r _ [5] (by decide +kernel) (by decide +kernel)
set_option maxRecDepth 20000 in
theorem gX6_isHouse_X6_in : GoodIn wsX6_isHouse (va_wsS RX6 42 yX6_in wsX6_in) := goodIn_app (goodIn_of _ (by decide +kernel)) ggX6_isHouse_X6_in
theorem dX6_isHouse_0 : decode cX6_isHouse 0 = .ok (.iload_n 1, 1) := by decide +kernel
theorem dX6_isHouse_1 : decode cX6_isHouse 1 = .ok (.i2l, 1) := by decide +kernel
theorem dX6_isHouse_2 : decode cX6_isHouse 2 = .ok (.lconst 0, 1) := by decide +kernel
theorem dX6_isHouse_3 : decode cX6_isHouse 3 = .ok (.aload_n 0, 1) := by decide +kernel
theorem dX6_isHouse_4 : decode cX6_isHouse 4 = .ok (.getfield 16, 3) := by decide +kernel
theorem dX6_isHouse_7 : decode cX6_isHouse 7 = .ok (.iconst 1, 1) := by decide +kernel
theorem dX6_isHouse_8 : decode cX6_isHouse 8 = .ok (.iaload, 1) := by decide +kernel
theorem dX6_isHouse_9 : decode cX6_isHouse 9 = .ok (.iconst 1, 1) := by decide +kernel
theorem dX6_isHouse_10 : decode cX6_isHouse 10 = .ok (.isub, 1) := by decide +kernel
theorem dX6_isHouse_11 : decode cX6_isHouse 11 = .ok (.i2l, 1) := by decide +kernel
theorem dX6_isHouse_12 : decode cX6_isHouse 12 = .ok (.invokestatic 42, 3) := by decide +kernel
theorem dX6_isHouse_15 : decode cX6_isHouse 15 = .ok (.ireturn, 1) := by decide +kernel
theorem dX6_high_0 : decode cX6_high 0 = .ok (.aload_n 0, 1) := by decide +kernel
theorem dX6_high_1 : decode cX6_high 1 = .ok (.getfield 19, 3) := by decide +kernel
theorem dX6_high_4 : decode cX6_high 4 = .ok (.iconst 2, 1) := by decide +kernel
theorem dX6_high_5 : decode cX6_high 5 = .ok (.iconst 5, 1) := by decide +kernel
theorem dX6_high_6 : decode cX6_high 6 = .ok (.iload_n 1, 1) := by decide +kernel
theorem dX6_high_7 : decode cX6_high 7 = .ok (.imul, 1) := by decide +kernel
theorem dX6_high_8 : decode cX6_high 8 = .ok (.iadd, 1) := by decide +kernel
theorem dX6_high_9 : decode cX6_high 9 = .ok (.iconst 2, 1) := by decide +kernel
theorem dX6_high_10 : decode cX6_high 10 = .ok (.iadd, 1) := by decide +kernel
theorem dX6_high_11 : decode cX6_high 11 = .ok (.iaload, 1) := by decide +kernel
theorem dX6_high_12 : decode cX6_high 12 = .ok (.ireturn, 1) := by decide +kernel
theorem dX6_isUsed_0 : decode cX6_isUsed 0 = .ok (.aload_n 0, 1) := by decide +kernel
theorem dX6_isUsed_1 : decode cX6_isUsed 1 = .ok (.getfield 19, 3) := by decide +kernel
theorem dX6_isUsed_4 : decode cX6_isUsed 4 = .ok (.iconst 2, 1) := by decide +kernel
theorem dX6_isUsed_5 : decode cX6_isUsed 5 = .ok (.iconst 5, 1) := by decide +kernel
theorem dX6_isUsed_6 : decode cX6_isUsed 6 = .ok (.iload_n 1, 1) := by decide +kernel
theorem dX6_isUsed_7 : decode cX6_isUsed 7 = .ok (.imul, 1) := by decide +kernel
theorem dX6_isUsed_8 : decode cX6_isUsed 8 = .ok (.iadd, 1) := by decide +kernel
theorem dX6_isUsed_9 : decode cX6_isUsed 9 = .ok (.iconst 4, 1) := by decide +kernel
theorem dX6_isUsed_10 : decode cX6_isUsed 10 = .ok (.iadd, 1) := by decide +kernel
theorem dX6_isUsed_11 : decode cX6_isUsed 11 = .ok (.iaload, 1) := by decide +kernel
theorem dX6_isUsed_12 : decode cX6_isUsed 12 = .ok (.ifCond .le 7, 3) := by decide +kernel
theorem dX6_isUsed_15 : decode cX6_isUsed 15 = .ok (.iconst 1, 1) := by decide +kernel
theorem dX6_isUsed_16 : decode cX6_isUsed 16 = .ok (.goto 4, 3) := by decide +kernel
theorem dX6_isUsed_19 : decode cX6_isUsed 19 = .ok (.iconst 0, 1) := by decide +kernel
theorem dX6_isUsed_20 : decode cX6_isUsed 20 = .ok (.ireturn, 1) := by decide +kernel
theorem dX6_tall_0 : decode cX6_tall 0 = .ok (.aload_n 0, 1) := by decide +kernel
theorem dX6_tall_1 : decode cX6_tall 1 = .ok (.getfield 16, 3) := by decide +kernel
theorem dX6_tall_4 : decode cX6_tall 4 = .ok (.bipush 33, 2) := by decide +kernel
theorem dX6_tall_6 : decode cX6_tall 6 = .ok (.iconst 3, 1) := by decide +kernel
theorem dX6_tall_7 : decode cX6_tall 7 = .ok (.iload_n 1, 1) := by decide +kernel
theorem dX6_tall_8 : decode cX6_tall 8 = .ok (.imul, 1) := by decide +kernel
theorem dX6_tall_9 : decode cX6_tall 9 = .ok (.iadd, 1) := by decide +kernel
theorem dX6_tall_10 : decode cX6_tall 10 = .ok (.iconst 2, 1) := by decide +kernel
theorem dX6_tall_11 : decode cX6_tall 11 = .ok (.iadd, 1) := by decide +kernel
theorem dX6_tall_12 : decode cX6_tall 12 = .ok (.iaload, 1) := by decide +kernel
theorem dX6_tall_13 : decode cX6_tall 13 = .ok (.ireturn, 1) := by decide +kernel
theorem dX6_isNear_0 : decode cX6_isNear 0 = .ok (.aload_n 0, 1) := by decide +kernel
theorem dX6_isNear_1 : decode cX6_isNear 1 = .ok (.getfield 16, 3) := by decide +kernel
theorem dX6_isNear_4 : decode cX6_isNear 4 = .ok (.bipush 33, 2) := by decide +kernel
theorem dX6_isNear_6 : decode cX6_isNear 6 = .ok (.iconst 3, 1) := by decide +kernel
theorem dX6_isNear_7 : decode cX6_isNear 7 = .ok (.iload_n 3, 1) := by decide +kernel
theorem dX6_isNear_8 : decode cX6_isNear 8 = .ok (.imul, 1) := by decide +kernel
theorem dX6_isNear_9 : decode cX6_isNear 9 = .ok (.iadd, 1) := by decide +kernel
theorem dX6_isNear_10 : decode cX6_isNear 10 = .ok (.iaload, 1) := by decide +kernel
theorem dX6_isNear_11 : decode cX6_isNear 11 = .ok (.iload_n 1, 1) := by decide +kernel
theorem dX6_isNear_12 : decode cX6_isNear 12 = .ok (.isub, 1) := by decide +kernel
theorem dX6_isNear_13 : decode cX6_isNear 13 = .ok (.istore 4, 2) := by decide +kernel
theorem dX6_isNear_15 : decode cX6_isNear 15 = .ok (.aload_n 0, 1) := by decide +kernel
theorem dX6_isNear_16 : decode cX6_isNear 16 = .ok (.getfield 16, 3) := by decide +kernel
theorem dX6_isNear_19 : decode cX6_isNear 19 = .ok (.bipush 33, 2) := by decide +kernel
theorem dX6_isNear_21 : decode cX6_isNear 21 = .ok (.iconst 3, 1) := by decide +kernel
theorem dX6_isNear_22 : decode cX6_isNear 22 = .ok (.iload_n 3, 1) := by decide +kernel
theorem dX6_isNear_23 : decode cX6_isNear 23 = .ok (.imul, 1) := by decide +kernel
theorem dX6_isNear_24 : decode cX6_isNear 24 = .ok (.iadd, 1) := by decide +kernel
theorem dX6_isNear_25 : decode cX6_isNear 25 = .ok (.iconst 1, 1) := by decide +kernel
theorem dX6_isNear_26 : decode cX6_isNear 26 = .ok (.iadd, 1) := by decide +kernel
theorem dX6_isNear_27 : decode cX6_isNear 27 = .ok (.iaload, 1) := by decide +kernel
theorem dX6_isNear_28 : decode cX6_isNear 28 = .ok (.iload_n 2, 1) := by decide +kernel
theorem dX6_isNear_29 : decode cX6_isNear 29 = .ok (.isub, 1) := by decide +kernel
theorem dX6_isNear_30 : decode cX6_isNear 30 = .ok (.istore 5, 2) := by decide +kernel
theorem dX6_isNear_32 : decode cX6_isNear 32 = .ok (.iload 4, 2) := by decide +kernel
theorem dX6_isNear_34 : decode cX6_isNear 34 = .ok (.iload 4, 2) := by decide +kernel
theorem dX6_isNear_36 : decode cX6_isNear 36 = .ok (.imul, 1) := by decide +kernel
theorem dX6_isNear_37 : decode cX6_isNear 37 = .ok (.iload 5, 2) := by decide +kernel
theorem dX6_isNear_39 : decode cX6_isNear 39 = .ok (.iload 5, 2) := by decide +kernel
theorem dX6_isNear_41 : decode cX6_isNear 41 = .ok (.imul, 1) := by decide +kernel
theorem dX6_isNear_42 : decode cX6_isNear 42 = .ok (.iadd, 1) := by decide +kernel
theorem dX6_isNear_43 : decode cX6_isNear 43 = .ok (.aload_n 0, 1) := by decide +kernel
theorem dX6_isNear_44 : decode cX6_isNear 44 = .ok (.getfield 16, 3) := by decide +kernel
theorem dX6_isNear_47 : decode cX6_isNear 47 = .ok (.iconst 2, 1) := by decide +kernel
theorem dX6_isNear_48 : decode cX6_isNear 48 = .ok (.iaload, 1) := by decide +kernel
theorem dX6_isNear_49 : decode cX6_isNear 49 = .ok (.aload_n 0, 1) := by decide +kernel
theorem dX6_isNear_50 : decode cX6_isNear 50 = .ok (.getfield 16, 3) := by decide +kernel
theorem dX6_isNear_53 : decode cX6_isNear 53 = .ok (.iconst 2, 1) := by decide +kernel
theorem dX6_isNear_54 : decode cX6_isNear 54 = .ok (.iaload, 1) := by decide +kernel
theorem dX6_isNear_55 : decode cX6_isNear 55 = .ok (.imul, 1) := by decide +kernel
theorem dX6_isNear_56 : decode cX6_isNear 56 = .ok (.if_icmp .gt 7, 3) := by decide +kernel
theorem dX6_isNear_59 : decode cX6_isNear 59 = .ok (.iconst 1, 1) := by decide +kernel
theorem dX6_isNear_60 : decode cX6_isNear 60 = .ok (.goto 4, 3) := by decide +kernel
theorem dX6_isNear_63 : decode cX6_isNear 63 = .ok (.iconst 0, 1) := by decide +kernel
theorem dX6_isNear_64 : decode cX6_isNear 64 = .ok (.ireturn, 1) := by decide +kernel
set_option maxRecDepth 20000 in
theorem ggX6_isInReach_X6_isUsed : GoodIn wsX6_isInReach wsX6_isUsed := goodIn_r _ [6, 1, 12, 13, 14, 15, 16, 17, 18, 19, 20, 21, 22, 23, 24, 25, 26, 27] (by decide +kernel) (by decide +kernel)
set_option maxRecDepth 20000 in
theorem gX6_isInReach_X6_isUsed : GoodIn wsX6_isInReach (wsV RX6 113 RX6 yX6_isUsed wsX6_isUsed) := goodIn_app (goodIn_of _ (by decide +kernel)) ggX6_isInReach_X6_isUsed
set_option maxRecDepth 20000 in
theorem ggX6_isInReach_X6_isNear : GoodIn wsX6_isInReach wsX6_isNear := goodIn_r _ [10, 11, 12, 13, 14, 15, 16, 17, 18, 19, 20, 21, 22, 23, 24, 25, 26, 27] (by decide +kernel) (by decide +kernel)
set_option maxRecDepth 20000 in
theorem gX6_isInReach_X6_isNear : GoodIn wsX6_isInReach (wsV RX6 116 RX6 yX6_isNear wsX6_isNear) := goodIn_app (goodIn_of _ (by decide +kernel)) ggX6_isInReach_X6_isNear
theorem dX6_isInReach_0 : decode cX6_isInReach 0 = .ok (.aload_n 0, 1) := by decide +kernel
theorem dX6_isInReach_1 : decode cX6_isInReach 1 = .ok (.iload_n 1, 1) := by decide +kernel
theorem dX6_isInReach_2 : decode cX6_isInReach 2 = .ok (.invokevirtual 113, 3) := by decide +kernel
theorem dX6_isInReach_5 : decode cX6_isInReach 5 = .ok (.ifCond .ne 37, 3) := by decide +kernel
theorem dX6_isInReach_8 : decode cX6_isInReach 8 = .ok (.aload_n 0, 1) := by decide +kernel
theorem dX6_isInReach_9 : decode cX6_isInReach 9 = .ok (.aload_n 0, 1) := by decide +kernel
theorem dX6_isInReach_10 : decode cX6_isInReach 10 = .ok (.getfield 19, 3) := by decide +kernel
theorem dX6_isInReach_13 : decode cX6_isInReach 13 = .ok (.iconst 2, 1) := by decide +kernel
theorem dX6_isInReach_14 : decode cX6_isInReach 14 = .ok (.iconst 5, 1) := by decide +kernel
theorem dX6_isInReach_15 : decode cX6_isInReach 15 = .ok (.iload_n 1, 1) := by decide +kernel
theorem dX6_isInReach_16 : decode cX6_isInReach 16 = .ok (.imul, 1) := by decide +kernel
theorem dX6_isInReach_17 : decode cX6_isInReach 17 = .ok (.iadd, 1) := by decide +kernel
theorem dX6_isInReach_18 : decode cX6_isInReach 18 = .ok (.iaload, 1) := by decide +kernel
theorem dX6_isInReach_19 : decode cX6_isInReach 19 = .ok (.aload_n 0, 1) := by decide +kernel
theorem dX6_isInReach_20 : decode cX6_isInReach 20 = .ok (.getfield 19, 3) := by decide +kernel
theorem dX6_isInReach_23 : decode cX6_isInReach 23 = .ok (.iconst 2, 1) := by decide +kernel
theorem dX6_isInReach_24 : decode cX6_isInReach 24 = .ok (.iconst 5, 1) := by decide +kernel
theorem dX6_isInReach_25 : decode cX6_isInReach 25 = .ok (.iload_n 1, 1) := by decide +kernel
theorem dX6_isInReach_26 : decode cX6_isInReach 26 = .ok (.imul, 1) := by decide +kernel
theorem dX6_isInReach_27 : decode cX6_isInReach 27 = .ok (.iadd, 1) := by decide +kernel
theorem dX6_isInReach_28 : decode cX6_isInReach 28 = .ok (.iconst 1, 1) := by decide +kernel
theorem dX6_isInReach_29 : decode cX6_isInReach 29 = .ok (.iadd, 1) := by decide +kernel
theorem dX6_isInReach_30 : decode cX6_isInReach 30 = .ok (.iaload, 1) := by decide +kernel
theorem dX6_isInReach_31 : decode cX6_isInReach 31 = .ok (.iload_n 2, 1) := by decide +kernel
theorem dX6_isInReach_32 : decode cX6_isInReach 32 = .ok (.invokevirtual 116, 3) := by decide +kernel
theorem dX6_isInReach_35 : decode cX6_isInReach 35 = .ok (.ifCond .eq 7, 3) := by decide +kernel
theorem dX6_isInReach_38 : decode cX6_isInReach 38 = .ok (.iconst 1, 1) := by decide +kernel
theorem dX6_isInReach_39 : decode cX6_isInReach 39 = .ok (.goto 4, 3) := by decide +kernel
theorem dX6_isInReach_42 : decode cX6_isInReach 42 = .ok (.iconst 0, 1) := by decide +kernel
theorem dX6_isInReach_43 : decode cX6_isInReach 43 = .ok (.ireturn, 1) := by decide +kernel
set_option maxRecDepth 20000 in
theorem ggX6_covers_X6_isInReach : GoodIn wsX6_covers wsX6_isInReach := goodIn_r _ [5, 6, 7, 8, 9, 4, 10, 11, 12, 13, 14, 15, 24, 25, 26, 27, 28, 29, 30, 31, 32, 33, 34, 35, 36, 37, 38, 39] (by decide +kernel) (by decide +kernel)
set_option maxRecDepth 20000 in
theorem gX6_covers_X6_isInReach : GoodIn wsX6_covers (wsV RX6 119 RX6 yX6_isInReach wsX6_isInReach) := goodIn_app (goodIn_of _ (by decide +kernel)) ggX6_covers_X6_isInReach
set_option maxRecDepth 20000 in
theorem ggX6_covers_X6_high : GoodIn wsX6_covers wsX6_high := goodIn_r _ [19, 6, 24, 25, 26, 27, 28, 29, 30, 31, 32, 33, 34, 35, 36, 37, 38, 39] (by decide +kernel) (by decide +kernel)
set_option maxRecDepth 20000 in
theorem gX6_covers_X6_high : GoodIn wsX6_covers (wsV RX6 122 RX6 yX6_high wsX6_high) := goodIn_app (goodIn_of _ (by decide +kernel)) ggX6_covers_X6_high
set_option maxRecDepth 20000 in
theorem ggX6_covers_X6_tall : GoodIn wsX6_covers wsX6_tall := goodIn_r _ [23, 15, 24, 25, 26, 27, 28, 29, 30, 31, 32, 33, 34, 35, 36, 37, 38, 39] (by decide +kernel) (by decide +kernel)
set_option maxRecDepth 20000 in
theorem gX6_covers_X6_tall : GoodIn wsX6_covers (wsV RX6 126 RX6 yX6_tall wsX6_tall) := goodIn_app (goodIn_of _ (by decide +kernel)) ggX6_covers_X6_tall
theorem dX6_covers_0 : decode cX6_covers 0 = .ok (.aload_n 0, 1) := by decide +kernel
theorem dX6_covers_1 : decode cX6_covers 1 = .ok (.iload_n 1, 1) := by decide +kernel
theorem dX6_covers_2 : decode cX6_covers 2 = .ok (.iload_n 2, 1) := by decide +kernel
theorem dX6_covers_3 : decode cX6_covers 3 = .ok (.invokevirtual 119, 3) := by decide +kernel
theorem dX6_covers_6 : decode cX6_covers 6 = .ok (.ifCond .eq 20, 3) := by decide +kernel
theorem dX6_covers_9 : decode cX6_covers 9 = .ok (.aload_n 0, 1) := by decide +kernel
theorem dX6_covers_10 : decode cX6_covers 10 = .ok (.iload_n 1, 1) := by decide +kernel
theorem dX6_covers_11 : decode cX6_covers 11 = .ok (.invokevirtual 122, 3) := by decide +kernel
theorem dX6_covers_14 : decode cX6_covers 14 = .ok (.aload_n 0, 1) := by decide +kernel
theorem dX6_covers_15 : decode cX6_covers 15 = .ok (.iload_n 2, 1) := by decide +kernel
theorem dX6_covers_16 : decode cX6_covers 16 = .ok (.invokevirtual 126, 3) := by decide +kernel
theorem dX6_covers_19 : decode cX6_covers 19 = .ok (.if_icmp .le 7, 3) := by decide +kernel
theorem dX6_covers_22 : decode cX6_covers 22 = .ok (.iconst 1, 1) := by decide +kernel
theorem dX6_covers_23 : decode cX6_covers 23 = .ok (.goto 4, 3) := by decide +kernel
theorem dX6_covers_26 : decode cX6_covers 26 = .ok (.iconst 0, 1) := by decide +kernel
theorem dX6_covers_27 : decode cX6_covers 27 = .ok (.ireturn, 1) := by decide +kernel
set_option maxRecDepth 20000 in
theorem ggX6_coveredBy_X6_covers : GoodIn wsX6_coveredBy wsX6_covers := goodIn_r _ [6, 7, 8, 9, 5, 10, 11, 12, 13, 14, 15, 16, 17, 18, 19, 1, 20, 21, 22, 23, 24, 25, 26, 27, 28, 29, 30, 31, 32, 33, 34, 35, 36, 37, 38, 39, 40, 41, 42, 43] (by decide +kernel) (by decide +kernel)
set_option maxRecDepth 20000 in
theorem gX6_coveredBy_X6_covers : GoodIn wsX6_coveredBy (wsV RX6 129 RX6 yX6_covers wsX6_covers) := goodIn_app (goodIn_of _ (by decide +kernel)) ggX6_coveredBy_X6_covers
theorem dX6_coveredBy_0 : decode cX6_coveredBy 0 = .ok (.iconst 0, 1) := by decide +kernel
theorem dX6_coveredBy_1 : decode cX6_coveredBy 1 = .ok (.istore_n 2, 1) := by decide +kernel
theorem dX6_coveredBy_2 : decode cX6_coveredBy 2 = .ok (.iconst 0, 1) := by decide +kernel
theorem dX6_coveredBy_3 : decode cX6_coveredBy 3 = .ok (.istore_n 3, 1) := by decide +kernel
theorem dX6_coveredBy_4 : decode cX6_coveredBy 4 = .ok (.iload_n 3, 1) := by decide +kernel
theorem dX6_coveredBy_5 : decode cX6_coveredBy 5 = .ok (.aload_n 0, 1) := by decide +kernel
theorem dX6_coveredBy_6 : decode cX6_coveredBy 6 = .ok (.getfield 16, 3) := by decide +kernel
theorem dX6_coveredBy_9 : decode cX6_coveredBy 9 = .ok (.iconst 1, 1) := by decide +kernel
theorem dX6_coveredBy_10 : decode cX6_coveredBy 10 = .ok (.iaload, 1) := by decide +kernel
theorem dX6_coveredBy_11 : decode cX6_coveredBy 11 = .ok (.if_icmp .ge 28, 3) := by decide +kernel
theorem dX6_coveredBy_14 : decode cX6_coveredBy 14 = .ok (.iload_n 2, 1) := by decide +kernel
theorem dX6_coveredBy_15 : decode cX6_coveredBy 15 = .ok (.aload_n 0, 1) := by decide +kernel
theorem dX6_coveredBy_16 : decode cX6_coveredBy 16 = .ok (.iload_n 1, 1) := by decide +kernel
theorem dX6_coveredBy_17 : decode cX6_coveredBy 17 = .ok (.iload_n 3, 1) := by decide +kernel
theorem dX6_coveredBy_18 : decode cX6_coveredBy 18 = .ok (.invokevirtual 129, 3) := by decide +kernel
theorem dX6_coveredBy_21 : decode cX6_coveredBy 21 = .ok (.ifCond .eq 9, 3) := by decide +kernel
theorem dX6_coveredBy_24 : decode cX6_coveredBy 24 = .ok (.iconst 1, 1) := by decide +kernel
theorem dX6_coveredBy_25 : decode cX6_coveredBy 25 = .ok (.iload_n 3, 1) := by decide +kernel
theorem dX6_coveredBy_26 : decode cX6_coveredBy 26 = .ok (.ishl, 1) := by decide +kernel
theorem dX6_coveredBy_27 : decode cX6_coveredBy 27 = .ok (.goto 4, 3) := by decide +kernel
theorem dX6_coveredBy_30 : decode cX6_coveredBy 30 = .ok (.iconst 0, 1) := by decide +kernel
theorem dX6_coveredBy_31 : decode cX6_coveredBy 31 = .ok (.ior, 1) := by decide +kernel
theorem dX6_coveredBy_32 : decode cX6_coveredBy 32 = .ok (.istore_n 2, 1) := by decide +kernel
theorem dX6_coveredBy_33 : decode cX6_coveredBy 33 = .ok (.iinc 3 1, 3) := by decide +kernel
theorem dX6_coveredBy_36 : decode cX6_coveredBy 36 = .ok (.goto (-32), 3) := by decide +kernel
theorem dX6_coveredBy_39 : decode cX6_coveredBy 39 = .ok (.iload_n 2, 1) := by decide +kernel
theorem dX6_coveredBy_40 : decode cX6_coveredBy 40 = .ok (.ireturn, 1) := by decide +kernel
set_option maxRecDepth 20000 in
theorem ggX6_covering_X6_covers : GoodIn wsX6_covering wsX6_covers := goodIn_r _ [6, 7, 8, 9, 5, 10, 1, 11, 12, 13, 14, 15, 16, 17, 18, 19, 20, 21, 22, 23, 24, 25, 26, 27, 28, 29, 30, 31, 32, 33, 34, 35, 36, 37, 38, 39, 40, 41, 42, 43] (by decide +kernel) (by decide +kernel)
set_option maxRecDepth 20000 in
theorem gX6_covering_X6_covers : GoodIn wsX6_covering (wsV RX6 129 RX6 yX6_covers wsX6_covers) := goodIn_app (goodIn_of _ (by decide +kernel)) ggX6_covering_X6_covers
theorem dX6_covering_0 : decode cX6_covering 0 = .ok (.iconst 0, 1) := by decide +kernel
theorem dX6_covering_1 : decode cX6_covering 1 = .ok (.istore_n 2, 1) := by decide +kernel
theorem dX6_covering_2 : decode cX6_covering 2 = .ok (.iconst 0, 1) := by decide +kernel
theorem dX6_covering_3 : decode cX6_covering 3 = .ok (.istore_n 3, 1) := by decide +kernel
theorem dX6_covering_4 : decode cX6_covering 4 = .ok (.iload_n 3, 1) := by decide +kernel
theorem dX6_covering_5 : decode cX6_covering 5 = .ok (.aload_n 0, 1) := by decide +kernel
theorem dX6_covering_6 : decode cX6_covering 6 = .ok (.getfield 19, 3) := by decide +kernel
theorem dX6_covering_9 : decode cX6_covering 9 = .ok (.iconst 1, 1) := by decide +kernel
theorem dX6_covering_10 : decode cX6_covering 10 = .ok (.iaload, 1) := by decide +kernel
theorem dX6_covering_11 : decode cX6_covering 11 = .ok (.if_icmp .ge 28, 3) := by decide +kernel
theorem dX6_covering_14 : decode cX6_covering 14 = .ok (.iload_n 2, 1) := by decide +kernel
theorem dX6_covering_15 : decode cX6_covering 15 = .ok (.aload_n 0, 1) := by decide +kernel
theorem dX6_covering_16 : decode cX6_covering 16 = .ok (.iload_n 3, 1) := by decide +kernel
theorem dX6_covering_17 : decode cX6_covering 17 = .ok (.iload_n 1, 1) := by decide +kernel
theorem dX6_covering_18 : decode cX6_covering 18 = .ok (.invokevirtual 129, 3) := by decide +kernel
theorem dX6_covering_21 : decode cX6_covering 21 = .ok (.ifCond .eq 9, 3) := by decide +kernel
theorem dX6_covering_24 : decode cX6_covering 24 = .ok (.iconst 1, 1) := by decide +kernel
theorem dX6_covering_25 : decode cX6_covering 25 = .ok (.iload_n 3, 1) := by decide +kernel
theorem dX6_covering_26 : decode cX6_covering 26 = .ok (.ishl, 1) := by decide +kernel
theorem dX6_covering_27 : decode cX6_covering 27 = .ok (.goto 4, 3) := by decide +kernel
theorem dX6_covering_30 : decode cX6_covering 30 = .ok (.iconst 0, 1) := by decide +kernel
theorem dX6_covering_31 : decode cX6_covering 31 = .ok (.ior, 1) := by decide +kernel
theorem dX6_covering_32 : decode cX6_covering 32 = .ok (.istore_n 2, 1) := by decide +kernel
theorem dX6_covering_33 : decode cX6_covering 33 = .ok (.iinc 3 1, 3) := by decide +kernel
theorem dX6_covering_36 : decode cX6_covering 36 = .ok (.goto (-32), 3) := by decide +kernel
theorem dX6_covering_39 : decode cX6_covering 39 = .ok (.iload_n 2, 1) := by decide +kernel
theorem dX6_covering_40 : decode cX6_covering 40 = .ok (.ireturn, 1) := by decide +kernel
set_option maxRecDepth 20000 in
theorem ggX6_covered_X6_coveredBy : GoodIn wsX6_covered wsX6_coveredBy := goodIn_r _ [6, 7, 8, 9, 10, 5, 11, 12, 13, 14, 15, 1, 16, 17, 18, 19, 20, 21, 22, 23, 24, 25, 26, 27, 28, 29, 30, 31, 32, 33, 34, 35, 36, 37, 38, 39, 40, 41, 42, 43, 44, 45, 46, 47] (by decide +kernel) (by decide +kernel)
set_option maxRecDepth 20000 in
theorem gX6_covered_X6_coveredBy : GoodIn wsX6_covered (wsV RX6 132 RX6 yX6_coveredBy wsX6_coveredBy) := goodIn_app (goodIn_of _ (by decide +kernel)) ggX6_covered_X6_coveredBy
theorem dX6_covered_0 : decode cX6_covered 0 = .ok (.iconst 0, 1) := by decide +kernel
theorem dX6_covered_1 : decode cX6_covered 1 = .ok (.istore_n 1, 1) := by decide +kernel
theorem dX6_covered_2 : decode cX6_covered 2 = .ok (.iconst 0, 1) := by decide +kernel
theorem dX6_covered_3 : decode cX6_covered 3 = .ok (.istore_n 2, 1) := by decide +kernel
theorem dX6_covered_4 : decode cX6_covered 4 = .ok (.iload_n 2, 1) := by decide +kernel
theorem dX6_covered_5 : decode cX6_covered 5 = .ok (.aload_n 0, 1) := by decide +kernel
theorem dX6_covered_6 : decode cX6_covered 6 = .ok (.getfield 19, 3) := by decide +kernel
theorem dX6_covered_9 : decode cX6_covered 9 = .ok (.iconst 1, 1) := by decide +kernel
theorem dX6_covered_10 : decode cX6_covered 10 = .ok (.iaload, 1) := by decide +kernel
theorem dX6_covered_11 : decode cX6_covered 11 = .ok (.if_icmp .ge 17, 3) := by decide +kernel
theorem dX6_covered_14 : decode cX6_covered 14 = .ok (.iload_n 1, 1) := by decide +kernel
theorem dX6_covered_15 : decode cX6_covered 15 = .ok (.aload_n 0, 1) := by decide +kernel
theorem dX6_covered_16 : decode cX6_covered 16 = .ok (.iload_n 2, 1) := by decide +kernel
theorem dX6_covered_17 : decode cX6_covered 17 = .ok (.invokevirtual 132, 3) := by decide +kernel
theorem dX6_covered_20 : decode cX6_covered 20 = .ok (.ior, 1) := by decide +kernel
theorem dX6_covered_21 : decode cX6_covered 21 = .ok (.istore_n 1, 1) := by decide +kernel
theorem dX6_covered_22 : decode cX6_covered 22 = .ok (.iinc 2 1, 3) := by decide +kernel
theorem dX6_covered_25 : decode cX6_covered 25 = .ok (.goto (-21), 3) := by decide +kernel
theorem dX6_covered_28 : decode cX6_covered 28 = .ok (.iload_n 1, 1) := by decide +kernel
theorem dX6_covered_29 : decode cX6_covered 29 = .ok (.ireturn, 1) := by decide +kernel
theorem dX6_many_0 : decode cX6_many 0 = .ok (.iconst 0, 1) := by decide +kernel
theorem dX6_many_1 : decode cX6_many 1 = .ok (.istore_n 1, 1) := by decide +kernel
theorem dX6_many_2 : decode cX6_many 2 = .ok (.iload_n 0, 1) := by decide +kernel
theorem dX6_many_3 : decode cX6_many 3 = .ok (.istore_n 2, 1) := by decide +kernel
theorem dX6_many_4 : decode cX6_many 4 = .ok (.iload_n 2, 1) := by decide +kernel
theorem dX6_many_5 : decode cX6_many 5 = .ok (.ifCond .eq 15, 3) := by decide +kernel
theorem dX6_many_8 : decode cX6_many 8 = .ok (.iinc 1 1, 3) := by decide +kernel
theorem dX6_many_11 : decode cX6_many 11 = .ok (.iload_n 2, 1) := by decide +kernel
theorem dX6_many_12 : decode cX6_many 12 = .ok (.iload_n 2, 1) := by decide +kernel
theorem dX6_many_13 : decode cX6_many 13 = .ok (.iconst 1, 1) := by decide +kernel
theorem dX6_many_14 : decode cX6_many 14 = .ok (.isub, 1) := by decide +kernel
theorem dX6_many_15 : decode cX6_many 15 = .ok (.iand, 1) := by decide +kernel
theorem dX6_many_16 : decode cX6_many 16 = .ok (.istore_n 2, 1) := by decide +kernel
theorem dX6_many_17 : decode cX6_many 17 = .ok (.goto (-13), 3) := by decide +kernel
theorem dX6_many_20 : decode cX6_many 20 = .ok (.iload_n 1, 1) := by decide +kernel
theorem dX6_many_21 : decode cX6_many 21 = .ok (.ireturn, 1) := by decide +kernel
set_option maxRecDepth 20000 in
theorem ggX6_premium_X6_tall : GoodIn wsX6_premium wsX6_tall := goodIn_r _ [5, 6, 35, 36, 37, 38, 39, 40, 41, 42, 43, 44, 45, 46, 47, 48, 49, 50] (by decide +kernel) (by decide +kernel)
set_option maxRecDepth 20000 in
theorem gX6_premium_X6_tall : GoodIn wsX6_premium (wsV RX6 126 RX6 yX6_tall wsX6_tall) := goodIn_app (goodIn_of _ (by decide +kernel)) ggX6_premium_X6_tall
set_option maxRecDepth 20000 in
theorem ggX6_premium_X6_covering : GoodIn wsX6_premium wsX6_covering := goodIn_r _ [10, 11, 12, 13, 14, 4, 15, 16, 17, 18, 19, 20, 21, 22, 23, 24, 25, 26, 27, 6, 28, 29, 30, 31, 1, 2, 3, 5, 35, 36, 37, 38, 39, 40, 41, 42, 43, 44, 45, 46, 47, 48, 49, 50] (by decide +kernel) (by decide +kernel)
set_option maxRecDepth 20000 in
theorem gX6_premium_X6_covering : GoodIn wsX6_premium (wsV RX6 135 RX6 yX6_covering wsX6_covering) := goodIn_app (goodIn_of _ (by decide +kernel)) ggX6_premium_X6_covering
set_option maxRecDepth 20000 in
theorem ggX6_premium_X6_many : GoodIn wsX6_premium wsX6_many := goodIn_r _ [34] (by decide +kernel) (by decide +kernel)
set_option maxRecDepth 20000 in
theorem gX6_premium_X6_many : GoodIn wsX6_premium (va_wsS RX6 138 yX6_many wsX6_many) := goodIn_app (goodIn_of _ (by decide +kernel)) ggX6_premium_X6_many
theorem dX6_premium_0 : decode cX6_premium 0 = .ok (.aload_n 0, 1) := by decide +kernel
theorem dX6_premium_1 : decode cX6_premium 1 = .ok (.iload_n 1, 1) := by decide +kernel
theorem dX6_premium_2 : decode cX6_premium 2 = .ok (.invokevirtual 126, 3) := by decide +kernel
theorem dX6_premium_5 : decode cX6_premium 5 = .ok (.bipush 30, 2) := by decide +kernel
theorem dX6_premium_7 : decode cX6_premium 7 = .ok (.iadd, 1) := by decide +kernel
theorem dX6_premium_8 : decode cX6_premium 8 = .ok (.bipush 10, 2) := by decide +kernel
theorem dX6_premium_10 : decode cX6_premium 10 = .ok (.aload_n 0, 1) := by decide +kernel
theorem dX6_premium_11 : decode cX6_premium 11 = .ok (.iload_n 1, 1) := by decide +kernel
theorem dX6_premium_12 : decode cX6_premium 12 = .ok (.invokevirtual 135, 3) := by decide +kernel
theorem dX6_premium_15 : decode cX6_premium 15 = .ok (.invokestatic 138, 3) := by decide +kernel
theorem dX6_premium_18 : decode cX6_premium 18 = .ok (.imul, 1) := by decide +kernel
theorem dX6_premium_19 : decode cX6_premium 19 = .ok (.isub, 1) := by decide +kernel
theorem dX6_premium_20 : decode cX6_premium 20 = .ok (.istore_n 2, 1) := by decide +kernel
theorem dX6_premium_21 : decode cX6_premium 21 = .ok (.iload_n 2, 1) := by decide +kernel
theorem dX6_premium_22 : decode cX6_premium 22 = .ok (.iconst 1, 1) := by decide +kernel
theorem dX6_premium_23 : decode cX6_premium 23 = .ok (.if_icmp .ge 7, 3) := by decide +kernel
theorem dX6_premium_26 : decode cX6_premium 26 = .ok (.iconst 1, 1) := by decide +kernel
theorem dX6_premium_27 : decode cX6_premium 27 = .ok (.goto 4, 3) := by decide +kernel
theorem dX6_premium_30 : decode cX6_premium 30 = .ok (.iload_n 2, 1) := by decide +kernel
theorem dX6_premium_31 : decode cX6_premium 31 = .ok (.ireturn, 1) := by decide +kernel
set_option maxRecDepth 20000 in
theorem ggX6_tree_X6_isTree : GoodIn wsX6_tree wsX6_isTree := goodIn_r _ [7, 2, 8, 9, 6, 10, 40, 41, 42, 43, 44, 45, 46, 47, 48, 49, 50, 51, 52, 53, 54, 55] (by decide +kernel) (by decide +kernel)
set_option maxRecDepth 20000 in
theorem gX6_tree_X6_isTree : GoodIn wsX6_tree (wsV RX6 141 RX6 yX6_isTree wsX6_isTree) := goodIn_app (goodIn_of _ (by decide +kernel)) ggX6_tree_X6_isTree
set_option maxRecDepth 20000 in
theorem ggX6_tree_X6_in : GoodIn wsX6_tree wsX6_in := goodIn_r _ [10] (by decide +kernel) (by decide +kernel)
set_option maxRecDepth 20000 in
theorem gX6_tree_X6_in : GoodIn wsX6_tree (va_wsS RX6 42 yX6_in wsX6_in) := goodIn_app (goodIn_of _ (by decide +kernel)) ggX6_tree_X6_in
set_option maxRecDepth 20000 in
theorem ggX6_tree_X6_coveredBy : GoodIn wsX6_tree wsX6_coveredBy := goodIn_r _ [14, 15, 16, 17, 18, 6, 19, 20, 21, 22, 23, 2, 24, 25, 26, 27, 28, 29, 30, 31, 32, 33, 34, 35, 36, 37, 38, 39, 40, 41, 42, 43, 44, 45, 46, 47, 48, 49, 50, 51, 52, 53, 54, 55] (by decide +kernel) (by decide +kernel)
set_option maxRecDepth 20000 in
theorem gX6_tree_X6_coveredBy : GoodIn wsX6_tree (wsV RX6 132 RX6 yX6_coveredBy wsX6_coveredBy) := goodIn_app (goodIn_of _ (by decide +kernel)) ggX6_tree_X6_coveredBy
theorem dX6_tree_0 : decode cX6_tree 0 = .ok (.aload_n 0, 1) := by decide +kernel
theorem dX6_tree_1 : decode cX6_tree 1 = .ok (.iload_n 1, 1) := by decide +kernel
theorem dX6_tree_2 : decode cX6_tree 2 = .ok (.invokevirtual 141, 3) := by decide +kernel
theorem dX6_tree_5 : decode cX6_tree 5 = .ok (.ifCond .eq 15, 3) := by decide +kernel
theorem dX6_tree_8 : decode cX6_tree 8 = .ok (.iload_n 2, 1) := by decide +kernel
theorem dX6_tree_9 : decode cX6_tree 9 = .ok (.i2l, 1) := by decide +kernel
theorem dX6_tree_10 : decode cX6_tree 10 = .ok (.lconst 0, 1) := by decide +kernel
theorem dX6_tree_11 : decode cX6_tree 11 = .ok (.ldc2_w 144, 3) := by decide +kernel
theorem dX6_tree_14 : decode cX6_tree 14 = .ok (.invokestatic 42, 3) := by decide +kernel
theorem dX6_tree_17 : decode cX6_tree 17 = .ok (.ifCond .ne 5, 3) := by decide +kernel
theorem dX6_tree_20 : decode cX6_tree 20 = .ok (.iconst (-1), 1) := by decide +kernel
theorem dX6_tree_21 : decode cX6_tree 21 = .ok (.ireturn, 1) := by decide +kernel
theorem dX6_tree_22 : decode cX6_tree 22 = .ok (.iload_n 2, 1) := by decide +kernel
theorem dX6_tree_23 : decode cX6_tree 23 = .ok (.iconst 5, 1) := by decide +kernel
theorem dX6_tree_24 : decode cX6_tree 24 = .ok (.if_icmp .ne 11, 3) := by decide +kernel
theorem dX6_tree_27 : decode cX6_tree 27 = .ok (.aload_n 0, 1) := by decide +kernel
theorem dX6_tree_28 : decode cX6_tree 28 = .ok (.iload_n 1, 1) := by decide +kernel
theorem dX6_tree_29 : decode cX6_tree 29 = .ok (.invokevirtual 132, 3) := by decide +kernel
theorem dX6_tree_32 : decode cX6_tree 32 = .ok (.goto 15, 3) := by decide +kernel
theorem dX6_tree_35 : decode cX6_tree 35 = .ok (.aload_n 0, 1) := by decide +kernel
theorem dX6_tree_36 : decode cX6_tree 36 = .ok (.getfield 19, 3) := by decide +kernel
theorem dX6_tree_39 : decode cX6_tree 39 = .ok (.iconst 2, 1) := by decide +kernel
theorem dX6_tree_40 : decode cX6_tree 40 = .ok (.iconst 5, 1) := by decide +kernel
theorem dX6_tree_41 : decode cX6_tree 41 = .ok (.iload_n 1, 1) := by decide +kernel
theorem dX6_tree_42 : decode cX6_tree 42 = .ok (.imul, 1) := by decide +kernel
theorem dX6_tree_43 : decode cX6_tree 43 = .ok (.iadd, 1) := by decide +kernel
theorem dX6_tree_44 : decode cX6_tree 44 = .ok (.iload_n 2, 1) := by decide +kernel
theorem dX6_tree_45 : decode cX6_tree 45 = .ok (.iadd, 1) := by decide +kernel
theorem dX6_tree_46 : decode cX6_tree 46 = .ok (.iaload, 1) := by decide +kernel
theorem dX6_tree_47 : decode cX6_tree 47 = .ok (.ireturn, 1) := by decide +kernel
set_option maxRecDepth 20000 in
theorem ggX6_house_X6_isHouse : GoodIn wsX6_house wsX6_isHouse := goodIn_r _ [8, 2, 9, 10, 7, 11, 47, 48, 49, 50, 51, 52, 53, 54, 55, 56, 57, 58, 59, 60, 61, 62] (by decide +kernel) (by decide +kernel)
set_option maxRecDepth 20000 in
theorem gX6_house_X6_isHouse : GoodIn wsX6_house (wsV RX6 146 RX6 yX6_isHouse wsX6_isHouse) := goodIn_app (goodIn_of _ (by decide +kernel)) ggX6_house_X6_isHouse
set_option maxRecDepth 20000 in
theorem ggX6_house_X6_in : GoodIn wsX6_house wsX6_in := goodIn_r _ [11] (by decide +kernel) (by decide +kernel)
set_option maxRecDepth 20000 in
theorem gX6_house_X6_in : GoodIn wsX6_house (va_wsS RX6 42 yX6_in wsX6_in) := goodIn_app (goodIn_of _ (by decide +kernel)) ggX6_house_X6_in
set_option maxRecDepth 20000 in
theorem ggX6_house_X6_covering : GoodIn wsX6_house wsX6_covering := goodIn_r _ [15, 3, 16, 17, 18, 7, 19, 20, 21, 22, 23, 24, 25, 26, 27, 28, 29, 30, 31, 2, 32, 33, 34, 35, 36, 37, 38, 39, 47, 48, 49, 50, 51, 52, 53, 54, 55, 56, 57, 58, 59, 60, 61, 62] (by decide +kernel) (by decide +kernel)
set_option maxRecDepth 20000 in
theorem gX6_house_X6_covering : GoodIn wsX6_house (wsV RX6 135 RX6 yX6_covering wsX6_covering) := goodIn_app (goodIn_of _ (by decide +kernel)) ggX6_house_X6_covering
set_option maxRecDepth 20000 in
theorem ggX6_house_X6_premium : GoodIn wsX6_house wsX6_premium := goodIn_r _ [43, 36, 37, 38, 7, 39, 2, 12, 13, 14, 15, 3, 16, 17, 18, 19, 20, 21, 22, 23, 24, 25, 26, 27, 28, 29, 30, 31, 32, 33, 34, 35, 44, 45, 46, 47, 48, 49, 50, 51, 52, 53, 54, 55, 56, 57, 58, 59, 60, 61, 62] (by decide +kernel) (by decide +kernel)
set_option maxRecDepth 20000 in
theorem gX6_house_X6_premium : GoodIn wsX6_house (wsV RX6 149 RX6 yX6_premium wsX6_premium) := goodIn_app (goodIn_of _ (by decide +kernel)) ggX6_house_X6_premium
theorem dX6_house_0 : decode cX6_house 0 = .ok (.aload_n 0, 1) := by decide +kernel
theorem dX6_house_1 : decode cX6_house 1 = .ok (.iload_n 1, 1) := by decide +kernel
theorem dX6_house_2 : decode cX6_house 2 = .ok (.invokevirtual 146, 3) := by decide +kernel
theorem dX6_house_5 : decode cX6_house 5 = .ok (.ifCond .eq 15, 3) := by decide +kernel
theorem dX6_house_8 : decode cX6_house 8 = .ok (.iload_n 2, 1) := by decide +kernel
theorem dX6_house_9 : decode cX6_house 9 = .ok (.i2l, 1) := by decide +kernel
theorem dX6_house_10 : decode cX6_house 10 = .ok (.lconst 0, 1) := by decide +kernel
theorem dX6_house_11 : decode cX6_house 11 = .ok (.ldc2_w 144, 3) := by decide +kernel
theorem dX6_house_14 : decode cX6_house 14 = .ok (.invokestatic 42, 3) := by decide +kernel
theorem dX6_house_17 : decode cX6_house 17 = .ok (.ifCond .ne 5, 3) := by decide +kernel
theorem dX6_house_20 : decode cX6_house 20 = .ok (.iconst (-1), 1) := by decide +kernel
theorem dX6_house_21 : decode cX6_house 21 = .ok (.ireturn, 1) := by decide +kernel
theorem dX6_house_22 : decode cX6_house 22 = .ok (.iload_n 2, 1) := by decide +kernel
theorem dX6_house_23 : decode cX6_house 23 = .ok (.iconst 3, 1) := by decide +kernel
theorem dX6_house_24 : decode cX6_house 24 = .ok (.if_icmp .ge 19, 3) := by decide +kernel
theorem dX6_house_27 : decode cX6_house 27 = .ok (.aload_n 0, 1) := by decide +kernel
theorem dX6_house_28 : decode cX6_house 28 = .ok (.getfield 16, 3) := by decide +kernel
theorem dX6_house_31 : decode cX6_house 31 = .ok (.bipush 33, 2) := by decide +kernel
theorem dX6_house_33 : decode cX6_house 33 = .ok (.iconst 3, 1) := by decide +kernel
theorem dX6_house_34 : decode cX6_house 34 = .ok (.iload_n 1, 1) := by decide +kernel
theorem dX6_house_35 : decode cX6_house 35 = .ok (.imul, 1) := by decide +kernel
theorem dX6_house_36 : decode cX6_house 36 = .ok (.iadd, 1) := by decide +kernel
theorem dX6_house_37 : decode cX6_house 37 = .ok (.iload_n 2, 1) := by decide +kernel
theorem dX6_house_38 : decode cX6_house 38 = .ok (.iadd, 1) := by decide +kernel
theorem dX6_house_39 : decode cX6_house 39 = .ok (.iaload, 1) := by decide +kernel
theorem dX6_house_40 : decode cX6_house 40 = .ok (.goto 38, 3) := by decide +kernel
theorem dX6_house_43 : decode cX6_house 43 = .ok (.iload_n 2, 1) := by decide +kernel
theorem dX6_house_44 : decode cX6_house 44 = .ok (.iconst 3, 1) := by decide +kernel
theorem dX6_house_45 : decode cX6_house 45 = .ok (.if_icmp .ne 15, 3) := by decide +kernel
theorem dX6_house_48 : decode cX6_house 48 = .ok (.aload_n 0, 1) := by decide +kernel
theorem dX6_house_49 : decode cX6_house 49 = .ok (.getfield 19, 3) := by decide +kernel
theorem dX6_house_52 : decode cX6_house 52 = .ok (.bipush 37, 2) := by decide +kernel
theorem dX6_house_54 : decode cX6_house 54 = .ok (.iload_n 1, 1) := by decide +kernel
theorem dX6_house_55 : decode cX6_house 55 = .ok (.iadd, 1) := by decide +kernel
theorem dX6_house_56 : decode cX6_house 56 = .ok (.iaload, 1) := by decide +kernel
theorem dX6_house_57 : decode cX6_house 57 = .ok (.goto 21, 3) := by decide +kernel
theorem dX6_house_60 : decode cX6_house 60 = .ok (.iload_n 2, 1) := by decide +kernel
theorem dX6_house_61 : decode cX6_house 61 = .ok (.iconst 4, 1) := by decide +kernel
theorem dX6_house_62 : decode cX6_house 62 = .ok (.if_icmp .ne 11, 3) := by decide +kernel
theorem dX6_house_65 : decode cX6_house 65 = .ok (.aload_n 0, 1) := by decide +kernel
theorem dX6_house_66 : decode cX6_house 66 = .ok (.iload_n 1, 1) := by decide +kernel
theorem dX6_house_67 : decode cX6_house 67 = .ok (.invokevirtual 135, 3) := by decide +kernel
theorem dX6_house_70 : decode cX6_house 70 = .ok (.goto 8, 3) := by decide +kernel
theorem dX6_house_73 : decode cX6_house 73 = .ok (.aload_n 0, 1) := by decide +kernel
theorem dX6_house_74 : decode cX6_house 74 = .ok (.iload_n 1, 1) := by decide +kernel
theorem dX6_house_75 : decode cX6_house 75 = .ok (.invokevirtual 149, 3) := by decide +kernel
theorem dX6_house_78 : decode cX6_house 78 = .ok (.ireturn, 1) := by decide +kernel
theorem dX6_notes_0 : decode cX6_notes 0 = .ok (.aload_n 0, 1) := by decide +kernel
theorem dX6_notes_1 : decode cX6_notes 1 = .ok (.getfield 110, 3) := by decide +kernel
theorem dX6_notes_4 : decode cX6_notes 4 = .ok (.bipush 10, 2) := by decide +kernel
theorem dX6_notes_6 : decode cX6_notes 6 = .ok (.if_icmp .ne 40, 3) := by decide +kernel
theorem dX6_notes_9 : decode cX6_notes 9 = .ok (.bipush 43, 2) := by decide +kernel
theorem dX6_notes_11 : decode cX6_notes 11 = .ok (.istore_n 1, 1) := by decide +kernel
theorem dX6_notes_12 : decode cX6_notes 12 = .ok (.iload_n 1, 1) := by decide +kernel
theorem dX6_notes_13 : decode cX6_notes 13 = .ok (.sipush 430, 3) := by decide +kernel
theorem dX6_notes_16 : decode cX6_notes 16 = .ok (.if_icmp .ge 24, 3) := by decide +kernel
theorem dX6_notes_19 : decode cX6_notes 19 = .ok (.aload_n 0, 1) := by decide +kernel
theorem dX6_notes_20 : decode cX6_notes 20 = .ok (.getfield 22, 3) := by decide +kernel
theorem dX6_notes_23 : decode cX6_notes 23 = .ok (.iload_n 1, 1) := by decide +kernel
theorem dX6_notes_24 : decode cX6_notes 24 = .ok (.bipush 43, 2) := by decide +kernel
theorem dX6_notes_26 : decode cX6_notes 26 = .ok (.isub, 1) := by decide +kernel
theorem dX6_notes_27 : decode cX6_notes 27 = .ok (.aload_n 0, 1) := by decide +kernel
theorem dX6_notes_28 : decode cX6_notes 28 = .ok (.getfield 22, 3) := by decide +kernel
theorem dX6_notes_31 : decode cX6_notes 31 = .ok (.iload_n 1, 1) := by decide +kernel
theorem dX6_notes_32 : decode cX6_notes 32 = .ok (.iaload, 1) := by decide +kernel
theorem dX6_notes_33 : decode cX6_notes 33 = .ok (.iastore, 1) := by decide +kernel
theorem dX6_notes_34 : decode cX6_notes 34 = .ok (.iinc 1 1, 3) := by decide +kernel
theorem dX6_notes_37 : decode cX6_notes 37 = .ok (.goto (-25), 3) := by decide +kernel
theorem dX6_notes_40 : decode cX6_notes 40 = .ok (.aload_n 0, 1) := by decide +kernel
theorem dX6_notes_41 : decode cX6_notes 41 = .ok (.bipush 9, 2) := by decide +kernel
theorem dX6_notes_43 : decode cX6_notes 43 = .ok (.putfield 110, 3) := by decide +kernel
theorem dX6_notes_46 : decode cX6_notes 46 = .ok (.iconst 0, 1) := by decide +kernel
theorem dX6_notes_47 : decode cX6_notes 47 = .ok (.istore_n 1, 1) := by decide +kernel
theorem dX6_notes_48 : decode cX6_notes 48 = .ok (.iload_n 1, 1) := by decide +kernel
theorem dX6_notes_49 : decode cX6_notes 49 = .ok (.bipush 43, 2) := by decide +kernel
theorem dX6_notes_51 : decode cX6_notes 51 = .ok (.if_icmp .ge 29, 3) := by decide +kernel
theorem dX6_notes_54 : decode cX6_notes 54 = .ok (.aload_n 0, 1) := by decide +kernel
theorem dX6_notes_55 : decode cX6_notes 55 = .ok (.getfield 22, 3) := by decide +kernel
theorem dX6_notes_58 : decode cX6_notes 58 = .ok (.bipush 43, 2) := by decide +kernel
theorem dX6_notes_60 : decode cX6_notes 60 = .ok (.aload_n 0, 1) := by decide +kernel
theorem dX6_notes_61 : decode cX6_notes 61 = .ok (.getfield 110, 3) := by decide +kernel
theorem dX6_notes_64 : decode cX6_notes 64 = .ok (.imul, 1) := by decide +kernel
theorem dX6_notes_65 : decode cX6_notes 65 = .ok (.iload_n 1, 1) := by decide +kernel
theorem dX6_notes_66 : decode cX6_notes 66 = .ok (.iadd, 1) := by decide +kernel
theorem dX6_notes_67 : decode cX6_notes 67 = .ok (.aload_n 0, 1) := by decide +kernel
theorem dX6_notes_68 : decode cX6_notes 68 = .ok (.getfield 19, 3) := by decide +kernel
theorem dX6_notes_71 : decode cX6_notes 71 = .ok (.iload_n 1, 1) := by decide +kernel
theorem dX6_notes_72 : decode cX6_notes 72 = .ok (.iaload, 1) := by decide +kernel
theorem dX6_notes_73 : decode cX6_notes 73 = .ok (.iastore, 1) := by decide +kernel
theorem dX6_notes_74 : decode cX6_notes 74 = .ok (.iinc 1 1, 3) := by decide +kernel
theorem dX6_notes_77 : decode cX6_notes 77 = .ok (.goto (-29), 3) := by decide +kernel
theorem dX6_notes_80 : decode cX6_notes 80 = .ok (.aload_n 0, 1) := by decide +kernel
theorem dX6_notes_81 : decode cX6_notes 81 = .ok (.dup, 1) := by decide +kernel
theorem dX6_notes_82 : decode cX6_notes 82 = .ok (.getfield 110, 3) := by decide +kernel
theorem dX6_notes_85 : decode cX6_notes 85 = .ok (.iconst 1, 1) := by decide +kernel
theorem dX6_notes_86 : decode cX6_notes 86 = .ok (.iadd, 1) := by decide +kernel
theorem dX6_notes_87 : decode cX6_notes 87 = .ok (.putfield 110, 3) := by decide +kernel
theorem dX6_notes_90 : decode cX6_notes 90 = .ok (.return_, 1) := by decide +kernel
theorem dX6_grows_0 : decode cX6_grows 0 = .ok (.iconst 0, 1) := by decide +kernel
theorem dX6_grows_1 : decode cX6_grows 1 = .ok (.istore_n 1, 1) := by decide +kernel
theorem dX6_grows_2 : decode cX6_grows 2 = .ok (.iload_n 1, 1) := by decide +kernel
theorem dX6_grows_3 : decode cX6_grows 3 = .ok (.aload_n 0, 1) := by decide +kernel
theorem dX6_grows_4 : decode cX6_grows 4 = .ok (.getfield 19, 3) := by decide +kernel
theorem dX6_grows_7 : decode cX6_grows 7 = .ok (.iconst 1, 1) := by decide +kernel
theorem dX6_grows_8 : decode cX6_grows 8 = .ok (.iaload, 1) := by decide +kernel
theorem dX6_grows_9 : decode cX6_grows 9 = .ok (.if_icmp .ge 79, 3) := by decide +kernel
theorem dX6_grows_12 : decode cX6_grows 12 = .ok (.iconst 2, 1) := by decide +kernel
theorem dX6_grows_13 : decode cX6_grows 13 = .ok (.iconst 5, 1) := by decide +kernel
theorem dX6_grows_14 : decode cX6_grows 14 = .ok (.iload_n 1, 1) := by decide +kernel
theorem dX6_grows_15 : decode cX6_grows 15 = .ok (.imul, 1) := by decide +kernel
theorem dX6_grows_16 : decode cX6_grows 16 = .ok (.iadd, 1) := by decide +kernel
theorem dX6_grows_17 : decode cX6_grows 17 = .ok (.istore_n 2, 1) := by decide +kernel
theorem dX6_grows_18 : decode cX6_grows 18 = .ok (.aload_n 0, 1) := by decide +kernel
theorem dX6_grows_19 : decode cX6_grows 19 = .ok (.getfield 19, 3) := by decide +kernel
theorem dX6_grows_22 : decode cX6_grows 22 = .ok (.iload_n 2, 1) := by decide +kernel
theorem dX6_grows_23 : decode cX6_grows 23 = .ok (.iconst 4, 1) := by decide +kernel
theorem dX6_grows_24 : decode cX6_grows 24 = .ok (.iadd, 1) := by decide +kernel
theorem dX6_grows_25 : decode cX6_grows 25 = .ok (.iaload, 1) := by decide +kernel
theorem dX6_grows_26 : decode cX6_grows 26 = .ok (.ifCond .le 18, 3) := by decide +kernel
theorem dX6_grows_29 : decode cX6_grows 29 = .ok (.aload_n 0, 1) := by decide +kernel
theorem dX6_grows_30 : decode cX6_grows 30 = .ok (.getfield 19, 3) := by decide +kernel
theorem dX6_grows_33 : decode cX6_grows 33 = .ok (.iload_n 2, 1) := by decide +kernel
theorem dX6_grows_34 : decode cX6_grows 34 = .ok (.iconst 4, 1) := by decide +kernel
theorem dX6_grows_35 : decode cX6_grows 35 = .ok (.iadd, 1) := by decide +kernel
theorem dX6_grows_36 : decode cX6_grows 36 = .ok (.dup2, 1) := by decide +kernel
theorem dX6_grows_37 : decode cX6_grows 37 = .ok (.iaload, 1) := by decide +kernel
theorem dX6_grows_38 : decode cX6_grows 38 = .ok (.iconst 1, 1) := by decide +kernel
theorem dX6_grows_39 : decode cX6_grows 39 = .ok (.isub, 1) := by decide +kernel
theorem dX6_grows_40 : decode cX6_grows 40 = .ok (.iastore, 1) := by decide +kernel
theorem dX6_grows_41 : decode cX6_grows 41 = .ok (.goto 41, 3) := by decide +kernel
theorem dX6_grows_44 : decode cX6_grows 44 = .ok (.aload_n 0, 1) := by decide +kernel
theorem dX6_grows_45 : decode cX6_grows 45 = .ok (.getfield 19, 3) := by decide +kernel
theorem dX6_grows_48 : decode cX6_grows 48 = .ok (.iload_n 2, 1) := by decide +kernel
theorem dX6_grows_49 : decode cX6_grows 49 = .ok (.iconst 2, 1) := by decide +kernel
theorem dX6_grows_50 : decode cX6_grows 50 = .ok (.iadd, 1) := by decide +kernel
theorem dX6_grows_51 : decode cX6_grows 51 = .ok (.iaload, 1) := by decide +kernel
theorem dX6_grows_52 : decode cX6_grows 52 = .ok (.aload_n 0, 1) := by decide +kernel
theorem dX6_grows_53 : decode cX6_grows 53 = .ok (.getfield 19, 3) := by decide +kernel
theorem dX6_grows_56 : decode cX6_grows 56 = .ok (.iload_n 2, 1) := by decide +kernel
theorem dX6_grows_57 : decode cX6_grows 57 = .ok (.iconst 3, 1) := by decide +kernel
theorem dX6_grows_58 : decode cX6_grows 58 = .ok (.iadd, 1) := by decide +kernel
theorem dX6_grows_59 : decode cX6_grows 59 = .ok (.iaload, 1) := by decide +kernel
theorem dX6_grows_60 : decode cX6_grows 60 = .ok (.iadd, 1) := by decide +kernel
theorem dX6_grows_61 : decode cX6_grows 61 = .ok (.istore_n 3, 1) := by decide +kernel
theorem dX6_grows_62 : decode cX6_grows 62 = .ok (.aload_n 0, 1) := by decide +kernel
theorem dX6_grows_63 : decode cX6_grows 63 = .ok (.getfield 19, 3) := by decide +kernel
theorem dX6_grows_66 : decode cX6_grows 66 = .ok (.iload_n 2, 1) := by decide +kernel
theorem dX6_grows_67 : decode cX6_grows 67 = .ok (.iconst 2, 1) := by decide +kernel
theorem dX6_grows_68 : decode cX6_grows 68 = .ok (.iadd, 1) := by decide +kernel
theorem dX6_grows_69 : decode cX6_grows 69 = .ok (.iload_n 3, 1) := by decide +kernel
theorem dX6_grows_70 : decode cX6_grows 70 = .ok (.bipush 99, 2) := by decide +kernel
theorem dX6_grows_72 : decode cX6_grows 72 = .ok (.if_icmp .le 8, 3) := by decide +kernel
theorem dX6_grows_75 : decode cX6_grows 75 = .ok (.bipush 99, 2) := by decide +kernel
theorem dX6_grows_77 : decode cX6_grows 77 = .ok (.goto 4, 3) := by decide +kernel
theorem dX6_grows_80 : decode cX6_grows 80 = .ok (.iload_n 3, 1) := by decide +kernel
theorem dX6_grows_81 : decode cX6_grows 81 = .ok (.iastore, 1) := by decide +kernel
theorem dX6_grows_82 : decode cX6_grows 82 = .ok (.iinc 1 1, 3) := by decide +kernel
theorem dX6_grows_85 : decode cX6_grows 85 = .ok (.goto (-83), 3) := by decide +kernel
theorem dX6_grows_88 : decode cX6_grows 88 = .ok (.aload_n 0, 1) := by decide +kernel
theorem dX6_grows_89 : decode cX6_grows 89 = .ok (.getfield 19, 3) := by decide +kernel
theorem dX6_grows_92 : decode cX6_grows 92 = .ok (.iconst 0, 1) := by decide +kernel
theorem dX6_grows_93 : decode cX6_grows 93 = .ok (.dup2, 1) := by decide +kernel
theorem dX6_grows_94 : decode cX6_grows 94 = .ok (.iaload, 1) := by decide +kernel
theorem dX6_grows_95 : decode cX6_grows 95 = .ok (.iconst 1, 1) := by decide +kernel
theorem dX6_grows_96 : decode cX6_grows 96 = .ok (.iadd, 1) := by decide +kernel
theorem dX6_grows_97 : decode cX6_grows 97 = .ok (.iastore, 1) := by decide +kernel
theorem dX6_grows_98 : decode cX6_grows 98 = .ok (.return_, 1) := by decide +kernel
set_option maxRecDepth 20000 in
theorem ggX6_year_X6_notes : GoodIn wsX6_year wsX6_notes := goodIn_r _ [6, 7, 8, 1, 46, 47, 48, 49, 50, 51, 52, 53, 54, 55, 56, 57, 58, 59, 60, 61] (by decide +kernel) (by decide +kernel)
set_option maxRecDepth 20000 in
theorem gX6_year_X6_notes : GoodIn wsX6_year (wsV RX6 152 RX6 yX6_notes wsX6_notes) := goodIn_app (goodIn_of _ (by decide +kernel)) ggX6_year_X6_notes
set_option maxRecDepth 20000 in
theorem ggX6_year_X6_grows : GoodIn wsX6_year wsX6_grows := goodIn_r _ [12, 1, 46, 47, 48, 49, 50, 51, 52, 53, 54, 55, 56, 57, 58, 59, 60, 61] (by decide +kernel) (by decide +kernel)
set_option maxRecDepth 20000 in
theorem gX6_year_X6_grows : GoodIn wsX6_year (wsV RX6 155 RX6 yX6_grows wsX6_grows) := goodIn_app (goodIn_of _ (by decide +kernel)) ggX6_year_X6_grows
set_option maxRecDepth 20000 in
theorem ggX6_year_X6_covered : GoodIn wsX6_year wsX6_covered := goodIn_r _ [16, 1, 17, 18, 19, 5, 20, 21, 22, 23, 24, 25, 26, 27, 28, 29, 30, 31, 32, 33, 34, 35, 36, 37, 38, 39, 40, 41, 42, 43, 44, 45, 46, 47, 48, 49, 50, 51, 52, 53, 54, 55, 56, 57, 58, 59, 60, 61] (by decide +kernel) (by decide +kernel)
set_option maxRecDepth 20000 in
theorem gX6_year_X6_covered : GoodIn wsX6_year (wsV RX6 158 RX6 yX6_covered wsX6_covered) := goodIn_app (goodIn_of _ (by decide +kernel)) ggX6_year_X6_covered
theorem dX6_year_0 : decode cX6_year 0 = .ok (.aload_n 0, 1) := by decide +kernel
theorem dX6_year_1 : decode cX6_year 1 = .ok (.getfield 19, 3) := by decide +kernel
theorem dX6_year_4 : decode cX6_year 4 = .ok (.iconst 0, 1) := by decide +kernel
theorem dX6_year_5 : decode cX6_year 5 = .ok (.iaload, 1) := by decide +kernel
theorem dX6_year_6 : decode cX6_year 6 = .ok (.sipush 200, 3) := by decide +kernel
theorem dX6_year_9 : decode cX6_year 9 = .ok (.if_icmp .ne 6, 3) := by decide +kernel
theorem dX6_year_12 : decode cX6_year 12 = .ok (.bipush (-2), 2) := by decide +kernel
theorem dX6_year_14 : decode cX6_year 14 = .ok (.ireturn, 1) := by decide +kernel
theorem dX6_year_15 : decode cX6_year 15 = .ok (.aload_n 0, 1) := by decide +kernel
theorem dX6_year_16 : decode cX6_year 16 = .ok (.invokevirtual 152, 3) := by decide +kernel
theorem dX6_year_19 : decode cX6_year 19 = .ok (.aload_n 0, 1) := by decide +kernel
theorem dX6_year_20 : decode cX6_year 20 = .ok (.invokevirtual 155, 3) := by decide +kernel
theorem dX6_year_23 : decode cX6_year 23 = .ok (.aload_n 0, 1) := by decide +kernel
theorem dX6_year_24 : decode cX6_year 24 = .ok (.invokevirtual 158, 3) := by decide +kernel
theorem dX6_year_27 : decode cX6_year 27 = .ok (.ireturn, 1) := by decide +kernel
set_option maxRecDepth 20000 in
theorem ggX6_strikes_X6_high : GoodIn wsX6_strikes wsX6_high := goodIn_r _ [9, 1, 21, 22, 23, 24, 25, 26, 27, 28, 29, 30, 31, 32, 33, 34, 35, 36] (by decide +kernel) (by decide +kernel)
set_option maxRecDepth 20000 in
theorem gX6_strikes_X6_high : GoodIn wsX6_strikes (wsV RX6 122 RX6 yX6_high wsX6_high) := goodIn_app (goodIn_of _ (by decide +kernel)) ggX6_strikes_X6_high
set_option maxRecDepth 20000 in
theorem ggX6_strikes_X6_tall : GoodIn wsX6_strikes wsX6_tall := goodIn_r _ [13, 2, 21, 22, 23, 24, 25, 26, 27, 28, 29, 30, 31, 32, 33, 34, 35, 36] (by decide +kernel) (by decide +kernel)
set_option maxRecDepth 20000 in
theorem gX6_strikes_X6_tall : GoodIn wsX6_strikes (wsV RX6 126 RX6 yX6_tall wsX6_tall) := goodIn_app (goodIn_of _ (by decide +kernel)) ggX6_strikes_X6_tall
set_option maxRecDepth 20000 in
theorem ggX6_strikes_X6_in : GoodIn wsX6_strikes wsX6_in := goodIn_r _ [16] (by decide +kernel) (by decide +kernel)
set_option maxRecDepth 20000 in
theorem gX6_strikes_X6_in : GoodIn wsX6_strikes (va_wsS RX6 42 yX6_in wsX6_in) := goodIn_app (goodIn_of _ (by decide +kernel)) ggX6_strikes_X6_in
set_option maxRecDepth 20000 in
theorem ggX6_strikes_X6_isUsed : GoodIn wsX6_strikes wsX6_isUsed := goodIn_r _ [20, 1, 21, 22, 23, 24, 25, 26, 27, 28, 29, 30, 31, 32, 33, 34, 35, 36] (by decide +kernel) (by decide +kernel)
set_option maxRecDepth 20000 in
theorem gX6_strikes_X6_isUsed : GoodIn wsX6_strikes (wsV RX6 113 RX6 yX6_isUsed wsX6_isUsed) := goodIn_app (goodIn_of _ (by decide +kernel)) ggX6_strikes_X6_isUsed
theorem dX6_strikes_0 : decode cX6_strikes 0 = .ok (.bipush (-9), 2) := by decide +kernel
theorem dX6_strikes_2 : decode cX6_strikes 2 = .ok (.istore_n 2, 1) := by decide +kernel
theorem dX6_strikes_3 : decode cX6_strikes 3 = .ok (.iconst 0, 1) := by decide +kernel
theorem dX6_strikes_4 : decode cX6_strikes 4 = .ok (.istore_n 3, 1) := by decide +kernel
theorem dX6_strikes_5 : decode cX6_strikes 5 = .ok (.iconst 0, 1) := by decide +kernel
theorem dX6_strikes_6 : decode cX6_strikes 6 = .ok (.istore 4, 2) := by decide +kernel
theorem dX6_strikes_8 : decode cX6_strikes 8 = .ok (.iconst 0, 1) := by decide +kernel
theorem dX6_strikes_9 : decode cX6_strikes 9 = .ok (.istore 5, 2) := by decide +kernel
theorem dX6_strikes_11 : decode cX6_strikes 11 = .ok (.iload 5, 2) := by decide +kernel
theorem dX6_strikes_13 : decode cX6_strikes 13 = .ok (.aload_n 0, 1) := by decide +kernel
theorem dX6_strikes_14 : decode cX6_strikes 14 = .ok (.getfield 19, 3) := by decide +kernel
theorem dX6_strikes_17 : decode cX6_strikes 17 = .ok (.iconst 1, 1) := by decide +kernel
theorem dX6_strikes_18 : decode cX6_strikes 18 = .ok (.iaload, 1) := by decide +kernel
theorem dX6_strikes_19 : decode cX6_strikes 19 = .ok (.aload_n 0, 1) := by decide +kernel
theorem dX6_strikes_20 : decode cX6_strikes 20 = .ok (.getfield 16, 3) := by decide +kernel
theorem dX6_strikes_23 : decode cX6_strikes 23 = .ok (.iconst 1, 1) := by decide +kernel
theorem dX6_strikes_24 : decode cX6_strikes 24 = .ok (.iaload, 1) := by decide +kernel
theorem dX6_strikes_25 : decode cX6_strikes 25 = .ok (.iadd, 1) := by decide +kernel
theorem dX6_strikes_26 : decode cX6_strikes 26 = .ok (.if_icmp .ge 254, 3) := by decide +kernel
theorem dX6_strikes_29 : decode cX6_strikes 29 = .ok (.iload 5, 2) := by decide +kernel
theorem dX6_strikes_31 : decode cX6_strikes 31 = .ok (.aload_n 0, 1) := by decide +kernel
theorem dX6_strikes_32 : decode cX6_strikes 32 = .ok (.getfield 19, 3) := by decide +kernel
theorem dX6_strikes_35 : decode cX6_strikes 35 = .ok (.iconst 1, 1) := by decide +kernel
theorem dX6_strikes_36 : decode cX6_strikes 36 = .ok (.iaload, 1) := by decide +kernel
theorem dX6_strikes_37 : decode cX6_strikes 37 = .ok (.if_icmp .ge 7, 3) := by decide +kernel
theorem dX6_strikes_40 : decode cX6_strikes 40 = .ok (.iconst 1, 1) := by decide +kernel
theorem dX6_strikes_41 : decode cX6_strikes 41 = .ok (.goto 4, 3) := by decide +kernel
theorem dX6_strikes_44 : decode cX6_strikes 44 = .ok (.iconst 0, 1) := by decide +kernel
theorem dX6_strikes_45 : decode cX6_strikes 45 = .ok (.istore 6, 2) := by decide +kernel
theorem dX6_strikes_47 : decode cX6_strikes 47 = .ok (.iload 6, 2) := by decide +kernel
theorem dX6_strikes_49 : decode cX6_strikes 49 = .ok (.ifCond .eq 8, 3) := by decide +kernel
theorem dX6_strikes_52 : decode cX6_strikes 52 = .ok (.iload 5, 2) := by decide +kernel
theorem dX6_strikes_54 : decode cX6_strikes 54 = .ok (.goto 12, 3) := by decide +kernel
theorem dX6_strikes_57 : decode cX6_strikes 57 = .ok (.iload 5, 2) := by decide +kernel
theorem dX6_strikes_59 : decode cX6_strikes 59 = .ok (.aload_n 0, 1) := by decide +kernel
theorem dX6_strikes_60 : decode cX6_strikes 60 = .ok (.getfield 19, 3) := by decide +kernel
theorem dX6_strikes_63 : decode cX6_strikes 63 = .ok (.iconst 1, 1) := by decide +kernel
theorem dX6_strikes_64 : decode cX6_strikes 64 = .ok (.iaload, 1) := by decide +kernel
theorem dX6_strikes_65 : decode cX6_strikes 65 = .ok (.isub, 1) := by decide +kernel
theorem dX6_strikes_66 : decode cX6_strikes 66 = .ok (.istore 7, 2) := by decide +kernel
theorem dX6_strikes_68 : decode cX6_strikes 68 = .ok (.iload 6, 2) := by decide +kernel
theorem dX6_strikes_70 : decode cX6_strikes 70 = .ok (.ifCond .eq 17, 3) := by decide +kernel
theorem dX6_strikes_73 : decode cX6_strikes 73 = .ok (.aload_n 0, 1) := by decide +kernel
theorem dX6_strikes_74 : decode cX6_strikes 74 = .ok (.getfield 19, 3) := by decide +kernel
theorem dX6_strikes_77 : decode cX6_strikes 77 = .ok (.iconst 2, 1) := by decide +kernel
theorem dX6_strikes_78 : decode cX6_strikes 78 = .ok (.iconst 5, 1) := by decide +kernel
theorem dX6_strikes_79 : decode cX6_strikes 79 = .ok (.iload 7, 2) := by decide +kernel
theorem dX6_strikes_81 : decode cX6_strikes 81 = .ok (.imul, 1) := by decide +kernel
theorem dX6_strikes_82 : decode cX6_strikes 82 = .ok (.iadd, 1) := by decide +kernel
theorem dX6_strikes_83 : decode cX6_strikes 83 = .ok (.iaload, 1) := by decide +kernel
theorem dX6_strikes_84 : decode cX6_strikes 84 = .ok (.goto 15, 3) := by decide +kernel
theorem dX6_strikes_87 : decode cX6_strikes 87 = .ok (.aload_n 0, 1) := by decide +kernel
theorem dX6_strikes_88 : decode cX6_strikes 88 = .ok (.getfield 16, 3) := by decide +kernel
theorem dX6_strikes_91 : decode cX6_strikes 91 = .ok (.bipush 33, 2) := by decide +kernel
theorem dX6_strikes_93 : decode cX6_strikes 93 = .ok (.iconst 3, 1) := by decide +kernel
theorem dX6_strikes_94 : decode cX6_strikes 94 = .ok (.iload 7, 2) := by decide +kernel
theorem dX6_strikes_96 : decode cX6_strikes 96 = .ok (.imul, 1) := by decide +kernel
theorem dX6_strikes_97 : decode cX6_strikes 97 = .ok (.iadd, 1) := by decide +kernel
theorem dX6_strikes_98 : decode cX6_strikes 98 = .ok (.iaload, 1) := by decide +kernel
theorem dX6_strikes_99 : decode cX6_strikes 99 = .ok (.istore 8, 2) := by decide +kernel
theorem dX6_strikes_101 : decode cX6_strikes 101 = .ok (.iload 6, 2) := by decide +kernel
theorem dX6_strikes_103 : decode cX6_strikes 103 = .ok (.ifCond .eq 19, 3) := by decide +kernel
theorem dX6_strikes_106 : decode cX6_strikes 106 = .ok (.aload_n 0, 1) := by decide +kernel
theorem dX6_strikes_107 : decode cX6_strikes 107 = .ok (.getfield 19, 3) := by decide +kernel
theorem dX6_strikes_110 : decode cX6_strikes 110 = .ok (.iconst 2, 1) := by decide +kernel
theorem dX6_strikes_111 : decode cX6_strikes 111 = .ok (.iconst 5, 1) := by decide +kernel
theorem dX6_strikes_112 : decode cX6_strikes 112 = .ok (.iload 7, 2) := by decide +kernel
theorem dX6_strikes_114 : decode cX6_strikes 114 = .ok (.imul, 1) := by decide +kernel
theorem dX6_strikes_115 : decode cX6_strikes 115 = .ok (.iadd, 1) := by decide +kernel
theorem dX6_strikes_116 : decode cX6_strikes 116 = .ok (.iconst 1, 1) := by decide +kernel
theorem dX6_strikes_117 : decode cX6_strikes 117 = .ok (.iadd, 1) := by decide +kernel
theorem dX6_strikes_118 : decode cX6_strikes 118 = .ok (.iaload, 1) := by decide +kernel
theorem dX6_strikes_119 : decode cX6_strikes 119 = .ok (.goto 17, 3) := by decide +kernel
theorem dX6_strikes_122 : decode cX6_strikes 122 = .ok (.aload_n 0, 1) := by decide +kernel
theorem dX6_strikes_123 : decode cX6_strikes 123 = .ok (.getfield 16, 3) := by decide +kernel
theorem dX6_strikes_126 : decode cX6_strikes 126 = .ok (.bipush 33, 2) := by decide +kernel
theorem dX6_strikes_128 : decode cX6_strikes 128 = .ok (.iconst 3, 1) := by decide +kernel
theorem dX6_strikes_129 : decode cX6_strikes 129 = .ok (.iload 7, 2) := by decide +kernel
theorem dX6_strikes_131 : decode cX6_strikes 131 = .ok (.imul, 1) := by decide +kernel
theorem dX6_strikes_132 : decode cX6_strikes 132 = .ok (.iadd, 1) := by decide +kernel
theorem dX6_strikes_133 : decode cX6_strikes 133 = .ok (.iconst 1, 1) := by decide +kernel
theorem dX6_strikes_134 : decode cX6_strikes 134 = .ok (.iadd, 1) := by decide +kernel
theorem dX6_strikes_135 : decode cX6_strikes 135 = .ok (.iaload, 1) := by decide +kernel
theorem dX6_strikes_136 : decode cX6_strikes 136 = .ok (.iload_n 1, 1) := by decide +kernel
theorem dX6_strikes_137 : decode cX6_strikes 137 = .ok (.isub, 1) := by decide +kernel
theorem dX6_strikes_138 : decode cX6_strikes 138 = .ok (.istore 9, 2) := by decide +kernel
theorem dX6_strikes_140 : decode cX6_strikes 140 = .ok (.iload 6, 2) := by decide +kernel
theorem dX6_strikes_142 : decode cX6_strikes 142 = .ok (.ifCond .eq 12, 3) := by decide +kernel
theorem dX6_strikes_145 : decode cX6_strikes 145 = .ok (.aload_n 0, 1) := by decide +kernel
theorem dX6_strikes_146 : decode cX6_strikes 146 = .ok (.iload 7, 2) := by decide +kernel
theorem dX6_strikes_148 : decode cX6_strikes 148 = .ok (.invokevirtual 122, 3) := by decide +kernel
theorem dX6_strikes_151 : decode cX6_strikes 151 = .ok (.goto 9, 3) := by decide +kernel
theorem dX6_strikes_154 : decode cX6_strikes 154 = .ok (.aload_n 0, 1) := by decide +kernel
theorem dX6_strikes_155 : decode cX6_strikes 155 = .ok (.iload 7, 2) := by decide +kernel
theorem dX6_strikes_157 : decode cX6_strikes 157 = .ok (.invokevirtual 126, 3) := by decide +kernel
theorem dX6_strikes_160 : decode cX6_strikes 160 = .ok (.istore 10, 2) := by decide +kernel
theorem dX6_strikes_162 : decode cX6_strikes 162 = .ok (.iload 9, 2) := by decide +kernel
theorem dX6_strikes_164 : decode cX6_strikes 164 = .ok (.i2l, 1) := by decide +kernel
theorem dX6_strikes_165 : decode cX6_strikes 165 = .ok (.ldc2_w 162, 3) := by decide +kernel
theorem dX6_strikes_168 : decode cX6_strikes 168 = .ok (.ldc2_w 164, 3) := by decide +kernel
theorem dX6_strikes_171 : decode cX6_strikes 171 = .ok (.invokestatic 42, 3) := by decide +kernel
theorem dX6_strikes_174 : decode cX6_strikes 174 = .ok (.ifCond .eq 46, 3) := by decide +kernel
theorem dX6_strikes_177 : decode cX6_strikes 177 = .ok (.iload 6, 2) := by decide +kernel
theorem dX6_strikes_179 : decode cX6_strikes 179 = .ok (.ifCond .eq 12, 3) := by decide +kernel
theorem dX6_strikes_182 : decode cX6_strikes 182 = .ok (.aload_n 0, 1) := by decide +kernel
theorem dX6_strikes_183 : decode cX6_strikes 183 = .ok (.iload 7, 2) := by decide +kernel
theorem dX6_strikes_185 : decode cX6_strikes 185 = .ok (.invokevirtual 113, 3) := by decide +kernel
theorem dX6_strikes_188 : decode cX6_strikes 188 = .ok (.ifCond .ne 32, 3) := by decide +kernel
theorem dX6_strikes_191 : decode cX6_strikes 191 = .ok (.iload_n 2, 1) := by decide +kernel
theorem dX6_strikes_192 : decode cX6_strikes 192 = .ok (.bipush (-9), 2) := by decide +kernel
theorem dX6_strikes_194 : decode cX6_strikes 194 = .ok (.if_icmp .eq 22, 3) := by decide +kernel
theorem dX6_strikes_197 : decode cX6_strikes 197 = .ok (.iload 10, 2) := by decide +kernel
theorem dX6_strikes_199 : decode cX6_strikes 199 = .ok (.iload_n 3, 1) := by decide +kernel
theorem dX6_strikes_200 : decode cX6_strikes 200 = .ok (.if_icmp .gt 16, 3) := by decide +kernel
theorem dX6_strikes_203 : decode cX6_strikes 203 = .ok (.iload 10, 2) := by decide +kernel
theorem dX6_strikes_205 : decode cX6_strikes 205 = .ok (.iload_n 3, 1) := by decide +kernel
theorem dX6_strikes_206 : decode cX6_strikes 206 = .ok (.if_icmp .ne 14, 3) := by decide +kernel
theorem dX6_strikes_209 : decode cX6_strikes 209 = .ok (.iload 8, 2) := by decide +kernel
theorem dX6_strikes_211 : decode cX6_strikes 211 = .ok (.iload 4, 2) := by decide +kernel
theorem dX6_strikes_213 : decode cX6_strikes 213 = .ok (.if_icmp .ge 7, 3) := by decide +kernel
theorem dX6_strikes_216 : decode cX6_strikes 216 = .ok (.iconst 1, 1) := by decide +kernel
theorem dX6_strikes_217 : decode cX6_strikes 217 = .ok (.goto 4, 3) := by decide +kernel
theorem dX6_strikes_220 : decode cX6_strikes 220 = .ok (.iconst 0, 1) := by decide +kernel
theorem dX6_strikes_221 : decode cX6_strikes 221 = .ok (.istore 11, 2) := by decide +kernel
theorem dX6_strikes_223 : decode cX6_strikes 223 = .ok (.iload 11, 2) := by decide +kernel
theorem dX6_strikes_225 : decode cX6_strikes 225 = .ok (.ifCond .eq 21, 3) := by decide +kernel
theorem dX6_strikes_228 : decode cX6_strikes 228 = .ok (.iload 6, 2) := by decide +kernel
theorem dX6_strikes_230 : decode cX6_strikes 230 = .ok (.ifCond .eq 8, 3) := by decide +kernel
theorem dX6_strikes_233 : decode cX6_strikes 233 = .ok (.iload 7, 2) := by decide +kernel
theorem dX6_strikes_235 : decode cX6_strikes 235 = .ok (.goto 12, 3) := by decide +kernel
theorem dX6_strikes_238 : decode cX6_strikes 238 = .ok (.bipush 100, 2) := by decide +kernel
theorem dX6_strikes_240 : decode cX6_strikes 240 = .ok (.iload 7, 2) := by decide +kernel
theorem dX6_strikes_242 : decode cX6_strikes 242 = .ok (.iadd, 1) := by decide +kernel
theorem dX6_strikes_243 : decode cX6_strikes 243 = .ok (.goto 4, 3) := by decide +kernel
theorem dX6_strikes_246 : decode cX6_strikes 246 = .ok (.iload_n 2, 1) := by decide +kernel
theorem dX6_strikes_247 : decode cX6_strikes 247 = .ok (.istore_n 2, 1) := by decide +kernel
theorem dX6_strikes_248 : decode cX6_strikes 248 = .ok (.iload 11, 2) := by decide +kernel
theorem dX6_strikes_250 : decode cX6_strikes 250 = .ok (.ifCond .eq 8, 3) := by decide +kernel
theorem dX6_strikes_253 : decode cX6_strikes 253 = .ok (.iload 10, 2) := by decide +kernel
theorem dX6_strikes_255 : decode cX6_strikes 255 = .ok (.goto 4, 3) := by decide +kernel
theorem dX6_strikes_258 : decode cX6_strikes 258 = .ok (.iload_n 3, 1) := by decide +kernel
theorem dX6_strikes_259 : decode cX6_strikes 259 = .ok (.istore_n 3, 1) := by decide +kernel
theorem dX6_strikes_260 : decode cX6_strikes 260 = .ok (.iload 11, 2) := by decide +kernel
theorem dX6_strikes_262 : decode cX6_strikes 262 = .ok (.ifCond .eq 8, 3) := by decide +kernel
theorem dX6_strikes_265 : decode cX6_strikes 265 = .ok (.iload 8, 2) := by decide +kernel
theorem dX6_strikes_267 : decode cX6_strikes 267 = .ok (.goto 5, 3) := by decide +kernel
theorem dX6_strikes_270 : decode cX6_strikes 270 = .ok (.iload 4, 2) := by decide +kernel
theorem dX6_strikes_272 : decode cX6_strikes 272 = .ok (.istore 4, 2) := by decide +kernel
theorem dX6_strikes_274 : decode cX6_strikes 274 = .ok (.iinc 5 1, 3) := by decide +kernel
theorem dX6_strikes_277 : decode cX6_strikes 277 = .ok (.goto (-266), 3) := by decide +kernel
theorem dX6_strikes_280 : decode cX6_strikes 280 = .ok (.iload_n 2, 1) := by decide +kernel
theorem dX6_strikes_281 : decode cX6_strikes 281 = .ok (.ireturn, 1) := by decide +kernel
set_option maxRecDepth 20000 in
theorem ggX6_storms_X6_strikes : GoodIn wsX6_storms wsX6_strikes := goodIn_r _ [7, 1, 2, 8, 9, 10, 11, 12, 6, 13, 14, 15, 16, 17, 18, 19, 20, 21, 22, 23, 24, 25, 26, 27, 28, 29, 30, 31, 32, 33, 34, 35, 36, 37, 38, 39, 40] (by decide +kernel) (by decide +kernel)
set_option maxRecDepth 20000 in
theorem gX6_storms_X6_strikes : GoodIn wsX6_storms (wsV RX6 166 RX6 yX6_strikes wsX6_strikes) := goodIn_app (goodIn_of _ (by decide +kernel)) ggX6_storms_X6_strikes
theorem dX6_storms_0 : decode cX6_storms 0 = .ok (.aload_n 0, 1) := by decide +kernel
theorem dX6_storms_1 : decode cX6_storms 1 = .ok (.iload_n 1, 1) := by decide +kernel
theorem dX6_storms_2 : decode cX6_storms 2 = .ok (.invokevirtual 166, 3) := by decide +kernel
theorem dX6_storms_5 : decode cX6_storms 5 = .ok (.istore_n 2, 1) := by decide +kernel
theorem dX6_storms_6 : decode cX6_storms 6 = .ok (.iload_n 2, 1) := by decide +kernel
theorem dX6_storms_7 : decode cX6_storms 7 = .ok (.bipush 100, 2) := by decide +kernel
theorem dX6_storms_9 : decode cX6_storms 9 = .ok (.if_icmp .lt 22, 3) := by decide +kernel
theorem dX6_storms_12 : decode cX6_storms 12 = .ok (.aload_n 0, 1) := by decide +kernel
theorem dX6_storms_13 : decode cX6_storms 13 = .ok (.getfield 19, 3) := by decide +kernel
theorem dX6_storms_16 : decode cX6_storms 16 = .ok (.bipush 37, 2) := by decide +kernel
theorem dX6_storms_18 : decode cX6_storms 18 = .ok (.iload_n 2, 1) := by decide +kernel
theorem dX6_storms_19 : decode cX6_storms 19 = .ok (.iadd, 1) := by decide +kernel
theorem dX6_storms_20 : decode cX6_storms 20 = .ok (.bipush 100, 2) := by decide +kernel
theorem dX6_storms_22 : decode cX6_storms 22 = .ok (.isub, 1) := by decide +kernel
theorem dX6_storms_23 : decode cX6_storms 23 = .ok (.dup2, 1) := by decide +kernel
theorem dX6_storms_24 : decode cX6_storms 24 = .ok (.iaload, 1) := by decide +kernel
theorem dX6_storms_25 : decode cX6_storms 25 = .ok (.iconst 1, 1) := by decide +kernel
theorem dX6_storms_26 : decode cX6_storms 26 = .ok (.iadd, 1) := by decide +kernel
theorem dX6_storms_27 : decode cX6_storms 27 = .ok (.iastore, 1) := by decide +kernel
theorem dX6_storms_28 : decode cX6_storms 28 = .ok (.goto 25, 3) := by decide +kernel
theorem dX6_storms_31 : decode cX6_storms 31 = .ok (.iload_n 2, 1) := by decide +kernel
theorem dX6_storms_32 : decode cX6_storms 32 = .ok (.ifCond .lt 21, 3) := by decide +kernel
theorem dX6_storms_35 : decode cX6_storms 35 = .ok (.aload_n 0, 1) := by decide +kernel
theorem dX6_storms_36 : decode cX6_storms 36 = .ok (.getfield 19, 3) := by decide +kernel
theorem dX6_storms_39 : decode cX6_storms 39 = .ok (.iconst 2, 1) := by decide +kernel
theorem dX6_storms_40 : decode cX6_storms 40 = .ok (.iconst 5, 1) := by decide +kernel
theorem dX6_storms_41 : decode cX6_storms 41 = .ok (.iload_n 2, 1) := by decide +kernel
theorem dX6_storms_42 : decode cX6_storms 42 = .ok (.imul, 1) := by decide +kernel
theorem dX6_storms_43 : decode cX6_storms 43 = .ok (.iadd, 1) := by decide +kernel
theorem dX6_storms_44 : decode cX6_storms 44 = .ok (.iconst 4, 1) := by decide +kernel
theorem dX6_storms_45 : decode cX6_storms 45 = .ok (.iadd, 1) := by decide +kernel
theorem dX6_storms_46 : decode cX6_storms 46 = .ok (.aload_n 0, 1) := by decide +kernel
theorem dX6_storms_47 : decode cX6_storms 47 = .ok (.getfield 16, 3) := by decide +kernel
theorem dX6_storms_50 : decode cX6_storms 50 = .ok (.iconst 3, 1) := by decide +kernel
theorem dX6_storms_51 : decode cX6_storms 51 = .ok (.iaload, 1) := by decide +kernel
theorem dX6_storms_52 : decode cX6_storms 52 = .ok (.iastore, 1) := by decide +kernel
theorem dX6_storms_53 : decode cX6_storms 53 = .ok (.iload_n 2, 1) := by decide +kernel
theorem dX6_storms_54 : decode cX6_storms 54 = .ok (.ireturn, 1) := by decide +kernel
set_option maxRecDepth 20000 in
theorem ggX6_storm_X6_in : GoodIn wsX6_storm wsX6_in := goodIn_r _ [5] (by decide +kernel) (by decide +kernel)
set_option maxRecDepth 20000 in
theorem gX6_storm_X6_in : GoodIn wsX6_storm (va_wsS RX6 42 yX6_in wsX6_in) := goodIn_app (goodIn_of _ (by decide +kernel)) ggX6_storm_X6_in
set_option maxRecDepth 20000 in
theorem ggX6_storm_X6_notes : GoodIn wsX6_storm wsX6_notes := goodIn_r _ [9, 10, 11, 12, 36, 37, 38, 39, 40, 41, 42, 43, 44, 45, 46, 47, 48, 49, 50, 51] (by decide +kernel) (by decide +kernel)
set_option maxRecDepth 20000 in
theorem gX6_storm_X6_notes : GoodIn wsX6_storm (wsV RX6 152 RX6 yX6_notes wsX6_notes) := goodIn_app (goodIn_of _ (by decide +kernel)) ggX6_storm_X6_notes
set_option maxRecDepth 20000 in
theorem ggX6_storm_X6_storms : GoodIn wsX6_storm wsX6_storms := goodIn_r _ [16, 12, 17, 18, 19, 20, 4, 21, 22, 23, 24, 25, 26, 27, 28, 29, 30, 31, 2, 3, 5, 32, 33, 34, 35, 36, 37, 38, 39, 40, 41, 42, 43, 44, 45, 46, 47, 48, 49, 50, 51] (by decide +kernel) (by decide +kernel)
set_option maxRecDepth 20000 in
theorem gX6_storm_X6_storms : GoodIn wsX6_storm (wsV RX6 171 RX6 yX6_storms wsX6_storms) := goodIn_app (goodIn_of _ (by decide +kernel)) ggX6_storm_X6_storms
theorem dX6_storm_0 : decode cX6_storm 0 = .ok (.iload_n 1, 1) := by decide +kernel
theorem dX6_storm_1 : decode cX6_storm 1 = .ok (.i2l, 1) := by decide +kernel
theorem dX6_storm_2 : decode cX6_storm 2 = .ok (.lconst 0, 1) := by decide +kernel
theorem dX6_storm_3 : decode cX6_storm 3 = .ok (.ldc2_w 169, 3) := by decide +kernel
theorem dX6_storm_6 : decode cX6_storm 6 = .ok (.invokestatic 42, 3) := by decide +kernel
theorem dX6_storm_9 : decode cX6_storm 9 = .ok (.ifCond .ne 5, 3) := by decide +kernel
theorem dX6_storm_12 : decode cX6_storm 12 = .ok (.iconst (-1), 1) := by decide +kernel
theorem dX6_storm_13 : decode cX6_storm 13 = .ok (.ireturn, 1) := by decide +kernel
theorem dX6_storm_14 : decode cX6_storm 14 = .ok (.aload_n 0, 1) := by decide +kernel
theorem dX6_storm_15 : decode cX6_storm 15 = .ok (.invokevirtual 152, 3) := by decide +kernel
theorem dX6_storm_18 : decode cX6_storm 18 = .ok (.aload_n 0, 1) := by decide +kernel
theorem dX6_storm_19 : decode cX6_storm 19 = .ok (.iload_n 1, 1) := by decide +kernel
theorem dX6_storm_20 : decode cX6_storm 20 = .ok (.invokevirtual 171, 3) := by decide +kernel
theorem dX6_storm_23 : decode cX6_storm 23 = .ok (.ireturn, 1) := by decide +kernel
set_option maxRecDepth 20000 in
theorem ggX6_tops_X6_isTree : GoodIn wsX6_tops wsX6_isTree := goodIn_r _ [7, 2, 8, 9, 6, 10, 21, 22, 23, 24, 25, 26, 27, 28, 29, 30, 31, 32, 33, 34, 35, 36] (by decide +kernel) (by decide +kernel)
set_option maxRecDepth 20000 in
theorem gX6_tops_X6_isTree : GoodIn wsX6_tops (wsV RX6 141 RX6 yX6_isTree wsX6_isTree) := goodIn_app (goodIn_of _ (by decide +kernel)) ggX6_tops_X6_isTree
set_option maxRecDepth 20000 in
theorem ggX6_tops_X6_in : GoodIn wsX6_tops wsX6_in := goodIn_r _ [10] (by decide +kernel) (by decide +kernel)
set_option maxRecDepth 20000 in
theorem gX6_tops_X6_in : GoodIn wsX6_tops (va_wsS RX6 42 yX6_in wsX6_in) := goodIn_app (goodIn_of _ (by decide +kernel)) ggX6_tops_X6_in
set_option maxRecDepth 20000 in
theorem ggX6_tops_X6_notes : GoodIn wsX6_tops wsX6_notes := goodIn_r _ [14, 15, 16, 2, 21, 22, 23, 24, 25, 26, 27, 28, 29, 30, 31, 32, 33, 34, 35, 36] (by decide +kernel) (by decide +kernel)
set_option maxRecDepth 20000 in
theorem gX6_tops_X6_notes : GoodIn wsX6_tops (wsV RX6 152 RX6 yX6_notes wsX6_notes) := goodIn_app (goodIn_of _ (by decide +kernel)) ggX6_tops_X6_notes
set_option maxRecDepth 20000 in
theorem ggX6_tops_X6_high : GoodIn wsX6_tops wsX6_high := goodIn_r _ [20, 2, 21, 22, 23, 24, 25, 26, 27, 28, 29, 30, 31, 32, 33, 34, 35, 36] (by decide +kernel) (by decide +kernel)
set_option maxRecDepth 20000 in
theorem gX6_tops_X6_high : GoodIn wsX6_tops (wsV RX6 122 RX6 yX6_high wsX6_high) := goodIn_app (goodIn_of _ (by decide +kernel)) ggX6_tops_X6_high
theorem dX6_tops_0 : decode cX6_tops 0 = .ok (.aload_n 0, 1) := by decide +kernel
theorem dX6_tops_1 : decode cX6_tops 1 = .ok (.iload_n 1, 1) := by decide +kernel
theorem dX6_tops_2 : decode cX6_tops 2 = .ok (.invokevirtual 141, 3) := by decide +kernel
theorem dX6_tops_5 : decode cX6_tops 5 = .ok (.ifCond .eq 15, 3) := by decide +kernel
theorem dX6_tops_8 : decode cX6_tops 8 = .ok (.iload_n 2, 1) := by decide +kernel
theorem dX6_tops_9 : decode cX6_tops 9 = .ok (.i2l, 1) := by decide +kernel
theorem dX6_tops_10 : decode cX6_tops 10 = .ok (.lconst 1, 1) := by decide +kernel
theorem dX6_tops_11 : decode cX6_tops 11 = .ok (.ldc2_w 174, 3) := by decide +kernel
theorem dX6_tops_14 : decode cX6_tops 14 = .ok (.invokestatic 42, 3) := by decide +kernel
theorem dX6_tops_17 : decode cX6_tops 17 = .ok (.ifCond .ne 5, 3) := by decide +kernel
theorem dX6_tops_20 : decode cX6_tops 20 = .ok (.iconst (-1), 1) := by decide +kernel
theorem dX6_tops_21 : decode cX6_tops 21 = .ok (.ireturn, 1) := by decide +kernel
theorem dX6_tops_22 : decode cX6_tops 22 = .ok (.aload_n 0, 1) := by decide +kernel
theorem dX6_tops_23 : decode cX6_tops 23 = .ok (.invokevirtual 152, 3) := by decide +kernel
theorem dX6_tops_26 : decode cX6_tops 26 = .ok (.aload_n 0, 1) := by decide +kernel
theorem dX6_tops_27 : decode cX6_tops 27 = .ok (.iload_n 1, 1) := by decide +kernel
theorem dX6_tops_28 : decode cX6_tops 28 = .ok (.invokevirtual 122, 3) := by decide +kernel
theorem dX6_tops_31 : decode cX6_tops 31 = .ok (.iload_n 2, 1) := by decide +kernel
theorem dX6_tops_32 : decode cX6_tops 32 = .ok (.isub, 1) := by decide +kernel
theorem dX6_tops_33 : decode cX6_tops 33 = .ok (.istore_n 3, 1) := by decide +kernel
theorem dX6_tops_34 : decode cX6_tops 34 = .ok (.aload_n 0, 1) := by decide +kernel
theorem dX6_tops_35 : decode cX6_tops 35 = .ok (.getfield 19, 3) := by decide +kernel
theorem dX6_tops_38 : decode cX6_tops 38 = .ok (.iconst 2, 1) := by decide +kernel
theorem dX6_tops_39 : decode cX6_tops 39 = .ok (.iconst 5, 1) := by decide +kernel
theorem dX6_tops_40 : decode cX6_tops 40 = .ok (.iload_n 1, 1) := by decide +kernel
theorem dX6_tops_41 : decode cX6_tops 41 = .ok (.imul, 1) := by decide +kernel
theorem dX6_tops_42 : decode cX6_tops 42 = .ok (.iadd, 1) := by decide +kernel
theorem dX6_tops_43 : decode cX6_tops 43 = .ok (.iconst 2, 1) := by decide +kernel
theorem dX6_tops_44 : decode cX6_tops 44 = .ok (.iadd, 1) := by decide +kernel
theorem dX6_tops_45 : decode cX6_tops 45 = .ok (.iload_n 3, 1) := by decide +kernel
theorem dX6_tops_46 : decode cX6_tops 46 = .ok (.iconst 1, 1) := by decide +kernel
theorem dX6_tops_47 : decode cX6_tops 47 = .ok (.if_icmp .ge 7, 3) := by decide +kernel
theorem dX6_tops_50 : decode cX6_tops 50 = .ok (.iconst 1, 1) := by decide +kernel
theorem dX6_tops_51 : decode cX6_tops 51 = .ok (.goto 4, 3) := by decide +kernel
theorem dX6_tops_54 : decode cX6_tops 54 = .ok (.iload_n 3, 1) := by decide +kernel
theorem dX6_tops_55 : decode cX6_tops 55 = .ok (.iastore, 1) := by decide +kernel
theorem dX6_tops_56 : decode cX6_tops 56 = .ok (.aload_n 0, 1) := by decide +kernel
theorem dX6_tops_57 : decode cX6_tops 57 = .ok (.iload_n 1, 1) := by decide +kernel
theorem dX6_tops_58 : decode cX6_tops 58 = .ok (.invokevirtual 122, 3) := by decide +kernel
theorem dX6_tops_61 : decode cX6_tops 61 = .ok (.ireturn, 1) := by decide +kernel
set_option maxRecDepth 20000 in
theorem ggX6_plants_X6_in : GoodIn wsX6_plants wsX6_in := goodIn_r _ [6] (by decide +kernel) (by decide +kernel)
set_option maxRecDepth 20000 in
theorem gX6_plants_X6_in : GoodIn wsX6_plants (va_wsS RX6 42 yX6_in wsX6_in) := goodIn_app (goodIn_of _ (by decide +kernel)) ggX6_plants_X6_in
set_option maxRecDepth 20000 in
theorem ggX6_plants_X6_notes : GoodIn wsX6_plants wsX6_notes := goodIn_r _ [10, 11, 12, 2, 13, 14, 15, 16, 17, 18, 19, 20, 21, 22, 23, 24, 25, 26, 27, 28] (by decide +kernel) (by decide +kernel)
set_option maxRecDepth 20000 in
theorem gX6_plants_X6_notes : GoodIn wsX6_plants (wsV RX6 152 RX6 yX6_notes wsX6_notes) := goodIn_app (goodIn_of _ (by decide +kernel)) ggX6_plants_X6_notes
theorem dX6_plants_0 : decode cX6_plants 0 = .ok (.iload_n 1, 1) := by decide +kernel
theorem dX6_plants_1 : decode cX6_plants 1 = .ok (.i2l, 1) := by decide +kernel
theorem dX6_plants_2 : decode cX6_plants 2 = .ok (.lconst 0, 1) := by decide +kernel
theorem dX6_plants_3 : decode cX6_plants 3 = .ok (.ldc2_w 169, 3) := by decide +kernel
theorem dX6_plants_6 : decode cX6_plants 6 = .ok (.invokestatic 42, 3) := by decide +kernel
theorem dX6_plants_9 : decode cX6_plants 9 = .ok (.ifCond .eq 15, 3) := by decide +kernel
theorem dX6_plants_12 : decode cX6_plants 12 = .ok (.iload_n 2, 1) := by decide +kernel
theorem dX6_plants_13 : decode cX6_plants 13 = .ok (.i2l, 1) := by decide +kernel
theorem dX6_plants_14 : decode cX6_plants 14 = .ok (.lconst 0, 1) := by decide +kernel
theorem dX6_plants_15 : decode cX6_plants 15 = .ok (.ldc2_w 169, 3) := by decide +kernel
theorem dX6_plants_18 : decode cX6_plants 18 = .ok (.invokestatic 42, 3) := by decide +kernel
theorem dX6_plants_21 : decode cX6_plants 21 = .ok (.ifCond .ne 5, 3) := by decide +kernel
theorem dX6_plants_24 : decode cX6_plants 24 = .ok (.iconst (-1), 1) := by decide +kernel
theorem dX6_plants_25 : decode cX6_plants 25 = .ok (.ireturn, 1) := by decide +kernel
theorem dX6_plants_26 : decode cX6_plants 26 = .ok (.aload_n 0, 1) := by decide +kernel
theorem dX6_plants_27 : decode cX6_plants 27 = .ok (.getfield 19, 3) := by decide +kernel
theorem dX6_plants_30 : decode cX6_plants 30 = .ok (.iconst 1, 1) := by decide +kernel
theorem dX6_plants_31 : decode cX6_plants 31 = .ok (.iaload, 1) := by decide +kernel
theorem dX6_plants_32 : decode cX6_plants 32 = .ok (.bipush 7, 2) := by decide +kernel
theorem dX6_plants_34 : decode cX6_plants 34 = .ok (.if_icmp .ne 6, 3) := by decide +kernel
theorem dX6_plants_37 : decode cX6_plants 37 = .ok (.bipush (-3), 2) := by decide +kernel
theorem dX6_plants_39 : decode cX6_plants 39 = .ok (.ireturn, 1) := by decide +kernel
theorem dX6_plants_40 : decode cX6_plants 40 = .ok (.aload_n 0, 1) := by decide +kernel
theorem dX6_plants_41 : decode cX6_plants 41 = .ok (.invokevirtual 152, 3) := by decide +kernel
theorem dX6_plants_44 : decode cX6_plants 44 = .ok (.iconst 2, 1) := by decide +kernel
theorem dX6_plants_45 : decode cX6_plants 45 = .ok (.iconst 5, 1) := by decide +kernel
theorem dX6_plants_46 : decode cX6_plants 46 = .ok (.aload_n 0, 1) := by decide +kernel
theorem dX6_plants_47 : decode cX6_plants 47 = .ok (.getfield 19, 3) := by decide +kernel
theorem dX6_plants_50 : decode cX6_plants 50 = .ok (.iconst 1, 1) := by decide +kernel
theorem dX6_plants_51 : decode cX6_plants 51 = .ok (.iaload, 1) := by decide +kernel
theorem dX6_plants_52 : decode cX6_plants 52 = .ok (.imul, 1) := by decide +kernel
theorem dX6_plants_53 : decode cX6_plants 53 = .ok (.iadd, 1) := by decide +kernel
theorem dX6_plants_54 : decode cX6_plants 54 = .ok (.istore_n 3, 1) := by decide +kernel
theorem dX6_plants_55 : decode cX6_plants 55 = .ok (.aload_n 0, 1) := by decide +kernel
theorem dX6_plants_56 : decode cX6_plants 56 = .ok (.getfield 19, 3) := by decide +kernel
theorem dX6_plants_59 : decode cX6_plants 59 = .ok (.iload_n 3, 1) := by decide +kernel
theorem dX6_plants_60 : decode cX6_plants 60 = .ok (.iload_n 1, 1) := by decide +kernel
theorem dX6_plants_61 : decode cX6_plants 61 = .ok (.iastore, 1) := by decide +kernel
theorem dX6_plants_62 : decode cX6_plants 62 = .ok (.aload_n 0, 1) := by decide +kernel
theorem dX6_plants_63 : decode cX6_plants 63 = .ok (.getfield 19, 3) := by decide +kernel
theorem dX6_plants_66 : decode cX6_plants 66 = .ok (.iload_n 3, 1) := by decide +kernel
theorem dX6_plants_67 : decode cX6_plants 67 = .ok (.iconst 1, 1) := by decide +kernel
theorem dX6_plants_68 : decode cX6_plants 68 = .ok (.iadd, 1) := by decide +kernel
theorem dX6_plants_69 : decode cX6_plants 69 = .ok (.iload_n 2, 1) := by decide +kernel
theorem dX6_plants_70 : decode cX6_plants 70 = .ok (.iastore, 1) := by decide +kernel
theorem dX6_plants_71 : decode cX6_plants 71 = .ok (.aload_n 0, 1) := by decide +kernel
theorem dX6_plants_72 : decode cX6_plants 72 = .ok (.getfield 19, 3) := by decide +kernel
theorem dX6_plants_75 : decode cX6_plants 75 = .ok (.iload_n 3, 1) := by decide +kernel
theorem dX6_plants_76 : decode cX6_plants 76 = .ok (.iconst 2, 1) := by decide +kernel
theorem dX6_plants_77 : decode cX6_plants 77 = .ok (.iadd, 1) := by decide +kernel
theorem dX6_plants_78 : decode cX6_plants 78 = .ok (.iconst 1, 1) := by decide +kernel
theorem dX6_plants_79 : decode cX6_plants 79 = .ok (.iastore, 1) := by decide +kernel
theorem dX6_plants_80 : decode cX6_plants 80 = .ok (.aload_n 0, 1) := by decide +kernel
theorem dX6_plants_81 : decode cX6_plants 81 = .ok (.getfield 19, 3) := by decide +kernel
theorem dX6_plants_84 : decode cX6_plants 84 = .ok (.iload_n 3, 1) := by decide +kernel
theorem dX6_plants_85 : decode cX6_plants 85 = .ok (.iconst 3, 1) := by decide +kernel
theorem dX6_plants_86 : decode cX6_plants 86 = .ok (.iadd, 1) := by decide +kernel
theorem dX6_plants_87 : decode cX6_plants 87 = .ok (.iconst 2, 1) := by decide +kernel
theorem dX6_plants_88 : decode cX6_plants 88 = .ok (.iastore, 1) := by decide +kernel
theorem dX6_plants_89 : decode cX6_plants 89 = .ok (.aload_n 0, 1) := by decide +kernel
theorem dX6_plants_90 : decode cX6_plants 90 = .ok (.getfield 19, 3) := by decide +kernel
theorem dX6_plants_93 : decode cX6_plants 93 = .ok (.iload_n 3, 1) := by decide +kernel
theorem dX6_plants_94 : decode cX6_plants 94 = .ok (.iconst 4, 1) := by decide +kernel
theorem dX6_plants_95 : decode cX6_plants 95 = .ok (.iadd, 1) := by decide +kernel
theorem dX6_plants_96 : decode cX6_plants 96 = .ok (.iconst 0, 1) := by decide +kernel
theorem dX6_plants_97 : decode cX6_plants 97 = .ok (.iastore, 1) := by decide +kernel
theorem dX6_plants_98 : decode cX6_plants 98 = .ok (.aload_n 0, 1) := by decide +kernel
theorem dX6_plants_99 : decode cX6_plants 99 = .ok (.getfield 19, 3) := by decide +kernel
theorem dX6_plants_102 : decode cX6_plants 102 = .ok (.iconst 1, 1) := by decide +kernel
theorem dX6_plants_103 : decode cX6_plants 103 = .ok (.dup2, 1) := by decide +kernel
theorem dX6_plants_104 : decode cX6_plants 104 = .ok (.iaload, 1) := by decide +kernel
theorem dX6_plants_105 : decode cX6_plants 105 = .ok (.iconst 1, 1) := by decide +kernel
theorem dX6_plants_106 : decode cX6_plants 106 = .ok (.iadd, 1) := by decide +kernel
theorem dX6_plants_107 : decode cX6_plants 107 = .ok (.iastore, 1) := by decide +kernel
theorem dX6_plants_108 : decode cX6_plants 108 = .ok (.aload_n 0, 1) := by decide +kernel
theorem dX6_plants_109 : decode cX6_plants 109 = .ok (.getfield 19, 3) := by decide +kernel
theorem dX6_plants_112 : decode cX6_plants 112 = .ok (.iconst 1, 1) := by decide +kernel
theorem dX6_plants_113 : decode cX6_plants 113 = .ok (.iaload, 1) := by decide +kernel
theorem dX6_plants_114 : decode cX6_plants 114 = .ok (.iconst 1, 1) := by decide +kernel
theorem dX6_plants_115 : decode cX6_plants 115 = .ok (.isub, 1) := by decide +kernel
theorem dX6_plants_116 : decode cX6_plants 116 = .ok (.ireturn, 1) := by decide +kernel
theorem dX6_undo_0 : decode cX6_undo 0 = .ok (.aload_n 0, 1) := by decide +kernel
theorem dX6_undo_1 : decode cX6_undo 1 = .ok (.getfield 110, 3) := by decide +kernel
theorem dX6_undo_4 : decode cX6_undo 4 = .ok (.ifCond .ne 6, 3) := by decide +kernel
theorem dX6_undo_7 : decode cX6_undo 7 = .ok (.bipush (-2), 2) := by decide +kernel
theorem dX6_undo_9 : decode cX6_undo 9 = .ok (.ireturn, 1) := by decide +kernel
theorem dX6_undo_10 : decode cX6_undo 10 = .ok (.aload_n 0, 1) := by decide +kernel
theorem dX6_undo_11 : decode cX6_undo 11 = .ok (.dup, 1) := by decide +kernel
theorem dX6_undo_12 : decode cX6_undo 12 = .ok (.getfield 110, 3) := by decide +kernel
theorem dX6_undo_15 : decode cX6_undo 15 = .ok (.iconst 1, 1) := by decide +kernel
theorem dX6_undo_16 : decode cX6_undo 16 = .ok (.isub, 1) := by decide +kernel
theorem dX6_undo_17 : decode cX6_undo 17 = .ok (.putfield 110, 3) := by decide +kernel
theorem dX6_undo_20 : decode cX6_undo 20 = .ok (.iconst 0, 1) := by decide +kernel
theorem dX6_undo_21 : decode cX6_undo 21 = .ok (.istore_n 1, 1) := by decide +kernel
theorem dX6_undo_22 : decode cX6_undo 22 = .ok (.iload_n 1, 1) := by decide +kernel
theorem dX6_undo_23 : decode cX6_undo 23 = .ok (.bipush 43, 2) := by decide +kernel
theorem dX6_undo_25 : decode cX6_undo 25 = .ok (.if_icmp .ge 29, 3) := by decide +kernel
theorem dX6_undo_28 : decode cX6_undo 28 = .ok (.aload_n 0, 1) := by decide +kernel
theorem dX6_undo_29 : decode cX6_undo 29 = .ok (.getfield 19, 3) := by decide +kernel
theorem dX6_undo_32 : decode cX6_undo 32 = .ok (.iload_n 1, 1) := by decide +kernel
theorem dX6_undo_33 : decode cX6_undo 33 = .ok (.aload_n 0, 1) := by decide +kernel
theorem dX6_undo_34 : decode cX6_undo 34 = .ok (.getfield 22, 3) := by decide +kernel
theorem dX6_undo_37 : decode cX6_undo 37 = .ok (.bipush 43, 2) := by decide +kernel
theorem dX6_undo_39 : decode cX6_undo 39 = .ok (.aload_n 0, 1) := by decide +kernel
theorem dX6_undo_40 : decode cX6_undo 40 = .ok (.getfield 110, 3) := by decide +kernel
theorem dX6_undo_43 : decode cX6_undo 43 = .ok (.imul, 1) := by decide +kernel
theorem dX6_undo_44 : decode cX6_undo 44 = .ok (.iload_n 1, 1) := by decide +kernel
theorem dX6_undo_45 : decode cX6_undo 45 = .ok (.iadd, 1) := by decide +kernel
theorem dX6_undo_46 : decode cX6_undo 46 = .ok (.iaload, 1) := by decide +kernel
theorem dX6_undo_47 : decode cX6_undo 47 = .ok (.iastore, 1) := by decide +kernel
theorem dX6_undo_48 : decode cX6_undo 48 = .ok (.iinc 1 1, 3) := by decide +kernel
theorem dX6_undo_51 : decode cX6_undo 51 = .ok (.goto (-29), 3) := by decide +kernel
theorem dX6_undo_54 : decode cX6_undo 54 = .ok (.aload_n 0, 1) := by decide +kernel
theorem dX6_undo_55 : decode cX6_undo 55 = .ok (.getfield 110, 3) := by decide +kernel
theorem dX6_undo_58 : decode cX6_undo 58 = .ok (.ireturn, 1) := by decide +kernel
set_option maxRecDepth 20000 in
theorem ggX6_enough_X6_covered : GoodIn wsX6_enough wsX6_covered := goodIn_r _ [6, 1, 7, 8, 9, 5, 10, 11, 12, 13, 14, 15, 16, 17, 18, 19, 20, 21, 22, 23, 24, 25, 26, 27, 28, 29, 30, 31, 32, 33, 34, 35, 39, 40, 41, 42, 43, 44, 45, 46, 47, 48, 49, 50, 51, 52, 53, 54] (by decide +kernel) (by decide +kernel)
set_option maxRecDepth 20000 in
theorem gX6_enough_X6_covered : GoodIn wsX6_enough (wsV RX6 158 RX6 yX6_covered wsX6_covered) := goodIn_app (goodIn_of _ (by decide +kernel)) ggX6_enough_X6_covered
set_option maxRecDepth 20000 in
theorem ggX6_enough_X6_coveredBy : GoodIn wsX6_enough wsX6_coveredBy := goodIn_r _ [10, 11, 12, 13, 14, 5, 15, 16, 17, 18, 19, 1, 20, 21, 22, 23, 24, 25, 26, 27, 28, 29, 30, 31, 32, 33, 34, 35, 39, 40, 41, 42, 43, 44, 45, 46, 47, 48, 49, 50, 51, 52, 53, 54] (by decide +kernel) (by decide +kernel)
set_option maxRecDepth 20000 in
theorem gX6_enough_X6_coveredBy : GoodIn wsX6_enough (wsV RX6 132 RX6 yX6_coveredBy wsX6_coveredBy) := goodIn_app (goodIn_of _ (by decide +kernel)) ggX6_enough_X6_coveredBy
set_option maxRecDepth 20000 in
theorem ggX6_enough_X6_many : GoodIn wsX6_enough wsX6_many := goodIn_r _ [38] (by decide +kernel) (by decide +kernel)
set_option maxRecDepth 20000 in
theorem gX6_enough_X6_many : GoodIn wsX6_enough (va_wsS RX6 138 yX6_many wsX6_many) := goodIn_app (goodIn_of _ (by decide +kernel)) ggX6_enough_X6_many
theorem dX6_enough_0 : decode cX6_enough 0 = .ok (.aload_n 0, 1) := by decide +kernel
theorem dX6_enough_1 : decode cX6_enough 1 = .ok (.invokevirtual 158, 3) := by decide +kernel
theorem dX6_enough_4 : decode cX6_enough 4 = .ok (.istore_n 1, 1) := by decide +kernel
theorem dX6_enough_5 : decode cX6_enough 5 = .ok (.bipush (-9), 2) := by decide +kernel
theorem dX6_enough_7 : decode cX6_enough 7 = .ok (.istore_n 2, 1) := by decide +kernel
theorem dX6_enough_8 : decode cX6_enough 8 = .ok (.iconst 0, 1) := by decide +kernel
theorem dX6_enough_9 : decode cX6_enough 9 = .ok (.istore_n 3, 1) := by decide +kernel
theorem dX6_enough_10 : decode cX6_enough 10 = .ok (.iload_n 3, 1) := by decide +kernel
theorem dX6_enough_11 : decode cX6_enough 11 = .ok (.iconst 1, 1) := by decide +kernel
theorem dX6_enough_12 : decode cX6_enough 12 = .ok (.aload_n 0, 1) := by decide +kernel
theorem dX6_enough_13 : decode cX6_enough 13 = .ok (.getfield 19, 3) := by decide +kernel
theorem dX6_enough_16 : decode cX6_enough 16 = .ok (.iconst 1, 1) := by decide +kernel
theorem dX6_enough_17 : decode cX6_enough 17 = .ok (.iaload, 1) := by decide +kernel
theorem dX6_enough_18 : decode cX6_enough 18 = .ok (.ishl, 1) := by decide +kernel
theorem dX6_enough_19 : decode cX6_enough 19 = .ok (.if_icmp .ge 86, 3) := by decide +kernel
theorem dX6_enough_22 : decode cX6_enough 22 = .ok (.iconst 0, 1) := by decide +kernel
theorem dX6_enough_23 : decode cX6_enough 23 = .ok (.istore 4, 2) := by decide +kernel
theorem dX6_enough_25 : decode cX6_enough 25 = .ok (.iconst 0, 1) := by decide +kernel
theorem dX6_enough_26 : decode cX6_enough 26 = .ok (.istore 5, 2) := by decide +kernel
theorem dX6_enough_28 : decode cX6_enough 28 = .ok (.iload 5, 2) := by decide +kernel
theorem dX6_enough_30 : decode cX6_enough 30 = .ok (.aload_n 0, 1) := by decide +kernel
theorem dX6_enough_31 : decode cX6_enough 31 = .ok (.getfield 19, 3) := by decide +kernel
theorem dX6_enough_34 : decode cX6_enough 34 = .ok (.iconst 1, 1) := by decide +kernel
theorem dX6_enough_35 : decode cX6_enough 35 = .ok (.iaload, 1) := by decide +kernel
theorem dX6_enough_36 : decode cX6_enough 36 = .ok (.if_icmp .ge 34, 3) := by decide +kernel
theorem dX6_enough_39 : decode cX6_enough 39 = .ok (.iload 4, 2) := by decide +kernel
theorem dX6_enough_41 : decode cX6_enough 41 = .ok (.iload_n 3, 1) := by decide +kernel
theorem dX6_enough_42 : decode cX6_enough 42 = .ok (.iload 5, 2) := by decide +kernel
theorem dX6_enough_44 : decode cX6_enough 44 = .ok (.ishr, 1) := by decide +kernel
theorem dX6_enough_45 : decode cX6_enough 45 = .ok (.iconst 1, 1) := by decide +kernel
theorem dX6_enough_46 : decode cX6_enough 46 = .ok (.iand, 1) := by decide +kernel
theorem dX6_enough_47 : decode cX6_enough 47 = .ok (.iconst 1, 1) := by decide +kernel
theorem dX6_enough_48 : decode cX6_enough 48 = .ok (.if_icmp .ne 12, 3) := by decide +kernel
theorem dX6_enough_51 : decode cX6_enough 51 = .ok (.aload_n 0, 1) := by decide +kernel
theorem dX6_enough_52 : decode cX6_enough 52 = .ok (.iload 5, 2) := by decide +kernel
theorem dX6_enough_54 : decode cX6_enough 54 = .ok (.invokevirtual 132, 3) := by decide +kernel
theorem dX6_enough_57 : decode cX6_enough 57 = .ok (.goto 4, 3) := by decide +kernel
theorem dX6_enough_60 : decode cX6_enough 60 = .ok (.iconst 0, 1) := by decide +kernel
theorem dX6_enough_61 : decode cX6_enough 61 = .ok (.ior, 1) := by decide +kernel
theorem dX6_enough_62 : decode cX6_enough 62 = .ok (.istore 4, 2) := by decide +kernel
theorem dX6_enough_64 : decode cX6_enough 64 = .ok (.iinc 5 1, 3) := by decide +kernel
theorem dX6_enough_67 : decode cX6_enough 67 = .ok (.goto (-39), 3) := by decide +kernel
theorem dX6_enough_70 : decode cX6_enough 70 = .ok (.iload 4, 2) := by decide +kernel
theorem dX6_enough_72 : decode cX6_enough 72 = .ok (.iload_n 1, 1) := by decide +kernel
theorem dX6_enough_73 : decode cX6_enough 73 = .ok (.if_icmp .ne 24, 3) := by decide +kernel
theorem dX6_enough_76 : decode cX6_enough 76 = .ok (.iload_n 2, 1) := by decide +kernel
theorem dX6_enough_77 : decode cX6_enough 77 = .ok (.bipush (-9), 2) := by decide +kernel
theorem dX6_enough_79 : decode cX6_enough 79 = .ok (.if_icmp .eq 14, 3) := by decide +kernel
theorem dX6_enough_82 : decode cX6_enough 82 = .ok (.iload_n 3, 1) := by decide +kernel
theorem dX6_enough_83 : decode cX6_enough 83 = .ok (.invokestatic 138, 3) := by decide +kernel
theorem dX6_enough_86 : decode cX6_enough 86 = .ok (.iload_n 2, 1) := by decide +kernel
theorem dX6_enough_87 : decode cX6_enough 87 = .ok (.invokestatic 138, 3) := by decide +kernel
theorem dX6_enough_90 : decode cX6_enough 90 = .ok (.if_icmp .ge 7, 3) := by decide +kernel
theorem dX6_enough_93 : decode cX6_enough 93 = .ok (.iload_n 3, 1) := by decide +kernel
theorem dX6_enough_94 : decode cX6_enough 94 = .ok (.goto 4, 3) := by decide +kernel
theorem dX6_enough_97 : decode cX6_enough 97 = .ok (.iload_n 2, 1) := by decide +kernel
theorem dX6_enough_98 : decode cX6_enough 98 = .ok (.istore_n 2, 1) := by decide +kernel
theorem dX6_enough_99 : decode cX6_enough 99 = .ok (.iinc 3 1, 3) := by decide +kernel
theorem dX6_enough_102 : decode cX6_enough 102 = .ok (.goto (-92), 3) := by decide +kernel
theorem dX6_enough_105 : decode cX6_enough 105 = .ok (.iload_n 2, 1) := by decide +kernel
theorem dX6_enough_106 : decode cX6_enough 106 = .ok (.ireturn, 1) := by decide +kernel
set_option maxRecDepth 20000 in
theorem ggX6_now_X6_isUsed : GoodIn wsX6_now wsX6_isUsed := goodIn_r _ [7, 1, 51, 52, 53, 54, 55, 56, 57, 58, 59, 60, 61, 62, 63, 64, 65, 66] (by decide +kernel) (by decide +kernel)
set_option maxRecDepth 20000 in
theorem gX6_now_X6_isUsed : GoodIn wsX6_now (wsV RX6 113 RX6 yX6_isUsed wsX6_isUsed) := goodIn_app (goodIn_of _ (by decide +kernel)) ggX6_now_X6_isUsed
set_option maxRecDepth 20000 in
theorem ggX6_now_X6_premium : GoodIn wsX6_now wsX6_premium := goodIn_r _ [11, 12, 13, 14, 6, 15, 2, 16, 17, 18, 19, 1, 20, 21, 22, 23, 24, 25, 26, 27, 3, 4, 5, 7, 28, 29, 30, 31, 32, 33, 34, 35, 36, 37, 38, 51, 52, 53, 54, 55, 56, 57, 58, 59, 60, 61, 62, 63, 64, 65, 66] (by decide +kernel) (by decide +kernel)
set_option maxRecDepth 20000 in
theorem gX6_now_X6_premium : GoodIn wsX6_now (wsV RX6 149 RX6 yX6_premium wsX6_premium) := goodIn_app (goodIn_of _ (by decide +kernel)) ggX6_now_X6_premium
set_option maxRecDepth 20000 in
theorem ggX6_now_X6_covered : GoodIn wsX6_now wsX6_covered := goodIn_r _ [42, 1, 43, 44, 45, 6, 46, 2, 20, 21, 22, 23, 24, 25, 26, 27, 3, 4, 5, 7, 28, 29, 30, 31, 32, 33, 34, 35, 12, 13, 14, 15, 51, 52, 53, 54, 55, 56, 57, 58, 59, 60, 61, 62, 63, 64, 65, 66] (by decide +kernel) (by decide +kernel)
set_option maxRecDepth 20000 in
theorem gX6_now_X6_covered : GoodIn wsX6_now (wsV RX6 158 RX6 yX6_covered wsX6_covered) := goodIn_app (goodIn_of _ (by decide +kernel)) ggX6_now_X6_covered
set_option maxRecDepth 20000 in
theorem ggX6_now_X6_enough : GoodIn wsX6_now wsX6_enough := goodIn_r _ [50, 1, 39, 40, 41, 6, 42, 43, 44, 45, 46, 2, 20, 21, 22, 23, 24, 25, 26, 27, 3, 4, 5, 7, 28, 29, 30, 31, 32, 33, 34, 35, 12, 13, 14, 15, 36, 37, 38, 51, 52, 53, 54, 55, 56, 57, 58, 59, 60, 61, 62, 63, 64, 65, 66] (by decide +kernel) (by decide +kernel)
set_option maxRecDepth 20000 in
theorem gX6_now_X6_enough : GoodIn wsX6_now (wsV RX6 176 RX6 yX6_enough wsX6_enough) := goodIn_app (goodIn_of _ (by decide +kernel)) ggX6_now_X6_enough
theorem dX6_now_0 : decode cX6_now 0 = .ok (.iconst 0, 1) := by decide +kernel
theorem dX6_now_1 : decode cX6_now 1 = .ok (.istore_n 2, 1) := by decide +kernel
theorem dX6_now_2 : decode cX6_now 2 = .ok (.iconst 0, 1) := by decide +kernel
theorem dX6_now_3 : decode cX6_now 3 = .ok (.istore_n 3, 1) := by decide +kernel
theorem dX6_now_4 : decode cX6_now 4 = .ok (.iconst 0, 1) := by decide +kernel
theorem dX6_now_5 : decode cX6_now 5 = .ok (.istore 4, 2) := by decide +kernel
theorem dX6_now_7 : decode cX6_now 7 = .ok (.iconst 0, 1) := by decide +kernel
theorem dX6_now_8 : decode cX6_now 8 = .ok (.istore 5, 2) := by decide +kernel
theorem dX6_now_10 : decode cX6_now 10 = .ok (.iload 5, 2) := by decide +kernel
theorem dX6_now_12 : decode cX6_now 12 = .ok (.aload_n 0, 1) := by decide +kernel
theorem dX6_now_13 : decode cX6_now 13 = .ok (.getfield 19, 3) := by decide +kernel
theorem dX6_now_16 : decode cX6_now 16 = .ok (.iconst 1, 1) := by decide +kernel
theorem dX6_now_17 : decode cX6_now 17 = .ok (.iaload, 1) := by decide +kernel
theorem dX6_now_18 : decode cX6_now 18 = .ok (.if_icmp .ge 29, 3) := by decide +kernel
theorem dX6_now_21 : decode cX6_now 21 = .ok (.iload_n 2, 1) := by decide +kernel
theorem dX6_now_22 : decode cX6_now 22 = .ok (.aload_n 0, 1) := by decide +kernel
theorem dX6_now_23 : decode cX6_now 23 = .ok (.iload 5, 2) := by decide +kernel
theorem dX6_now_25 : decode cX6_now 25 = .ok (.invokevirtual 113, 3) := by decide +kernel
theorem dX6_now_28 : decode cX6_now 28 = .ok (.ifCond .eq 10, 3) := by decide +kernel
theorem dX6_now_31 : decode cX6_now 31 = .ok (.iconst 1, 1) := by decide +kernel
theorem dX6_now_32 : decode cX6_now 32 = .ok (.iload 5, 2) := by decide +kernel
theorem dX6_now_34 : decode cX6_now 34 = .ok (.ishl, 1) := by decide +kernel
theorem dX6_now_35 : decode cX6_now 35 = .ok (.goto 4, 3) := by decide +kernel
theorem dX6_now_38 : decode cX6_now 38 = .ok (.iconst 0, 1) := by decide +kernel
theorem dX6_now_39 : decode cX6_now 39 = .ok (.ior, 1) := by decide +kernel
theorem dX6_now_40 : decode cX6_now 40 = .ok (.istore_n 2, 1) := by decide +kernel
theorem dX6_now_41 : decode cX6_now 41 = .ok (.iinc 5 1, 3) := by decide +kernel
theorem dX6_now_44 : decode cX6_now 44 = .ok (.goto (-34), 3) := by decide +kernel
theorem dX6_now_47 : decode cX6_now 47 = .ok (.iconst 0, 1) := by decide +kernel
theorem dX6_now_48 : decode cX6_now 48 = .ok (.istore 5, 2) := by decide +kernel
theorem dX6_now_50 : decode cX6_now 50 = .ok (.iload 5, 2) := by decide +kernel
theorem dX6_now_52 : decode cX6_now 52 = .ok (.aload_n 0, 1) := by decide +kernel
theorem dX6_now_53 : decode cX6_now 53 = .ok (.getfield 16, 3) := by decide +kernel
theorem dX6_now_56 : decode cX6_now 56 = .ok (.iconst 1, 1) := by decide +kernel
theorem dX6_now_57 : decode cX6_now 57 = .ok (.iaload, 1) := by decide +kernel
theorem dX6_now_58 : decode cX6_now 58 = .ok (.if_icmp .ge 33, 3) := by decide +kernel
theorem dX6_now_61 : decode cX6_now 61 = .ok (.iload_n 3, 1) := by decide +kernel
theorem dX6_now_62 : decode cX6_now 62 = .ok (.aload_n 0, 1) := by decide +kernel
theorem dX6_now_63 : decode cX6_now 63 = .ok (.iload 5, 2) := by decide +kernel
theorem dX6_now_65 : decode cX6_now 65 = .ok (.invokevirtual 149, 3) := by decide +kernel
theorem dX6_now_68 : decode cX6_now 68 = .ok (.iadd, 1) := by decide +kernel
theorem dX6_now_69 : decode cX6_now 69 = .ok (.istore_n 3, 1) := by decide +kernel
theorem dX6_now_70 : decode cX6_now 70 = .ok (.iload 4, 2) := by decide +kernel
theorem dX6_now_72 : decode cX6_now 72 = .ok (.aload_n 0, 1) := by decide +kernel
theorem dX6_now_73 : decode cX6_now 73 = .ok (.getfield 19, 3) := by decide +kernel
theorem dX6_now_76 : decode cX6_now 76 = .ok (.bipush 37, 2) := by decide +kernel
theorem dX6_now_78 : decode cX6_now 78 = .ok (.iload 5, 2) := by decide +kernel
theorem dX6_now_80 : decode cX6_now 80 = .ok (.iadd, 1) := by decide +kernel
theorem dX6_now_81 : decode cX6_now 81 = .ok (.iaload, 1) := by decide +kernel
theorem dX6_now_82 : decode cX6_now 82 = .ok (.iadd, 1) := by decide +kernel
theorem dX6_now_83 : decode cX6_now 83 = .ok (.istore 4, 2) := by decide +kernel
theorem dX6_now_85 : decode cX6_now 85 = .ok (.iinc 5 1, 3) := by decide +kernel
theorem dX6_now_88 : decode cX6_now 88 = .ok (.goto (-38), 3) := by decide +kernel
theorem dX6_now_91 : decode cX6_now 91 = .ok (.iload_n 1, 1) := by decide +kernel
theorem dX6_now_92 : decode cX6_now 92 = .ok (.tableswitch 64 0 5 #[40, 47, 52, 54, 56, 59], 40) := by decide +kernel
theorem dX6_now_132 : decode cX6_now 132 = .ok (.aload_n 0, 1) := by decide +kernel
theorem dX6_now_133 : decode cX6_now 133 = .ok (.getfield 19, 3) := by decide +kernel
theorem dX6_now_136 : decode cX6_now 136 = .ok (.iconst 0, 1) := by decide +kernel
theorem dX6_now_137 : decode cX6_now 137 = .ok (.iaload, 1) := by decide +kernel
theorem dX6_now_138 : decode cX6_now 138 = .ok (.ireturn, 1) := by decide +kernel
theorem dX6_now_139 : decode cX6_now 139 = .ok (.aload_n 0, 1) := by decide +kernel
theorem dX6_now_140 : decode cX6_now 140 = .ok (.invokevirtual 158, 3) := by decide +kernel
theorem dX6_now_143 : decode cX6_now 143 = .ok (.ireturn, 1) := by decide +kernel
theorem dX6_now_144 : decode cX6_now 144 = .ok (.iload_n 2, 1) := by decide +kernel
theorem dX6_now_145 : decode cX6_now 145 = .ok (.ireturn, 1) := by decide +kernel
theorem dX6_now_146 : decode cX6_now 146 = .ok (.iload_n 3, 1) := by decide +kernel
theorem dX6_now_147 : decode cX6_now 147 = .ok (.ireturn, 1) := by decide +kernel
theorem dX6_now_148 : decode cX6_now 148 = .ok (.iload 4, 2) := by decide +kernel
theorem dX6_now_150 : decode cX6_now 150 = .ok (.ireturn, 1) := by decide +kernel
theorem dX6_now_151 : decode cX6_now 151 = .ok (.aload_n 0, 1) := by decide +kernel
theorem dX6_now_152 : decode cX6_now 152 = .ok (.invokevirtual 176, 3) := by decide +kernel
theorem dX6_now_155 : decode cX6_now 155 = .ok (.ireturn, 1) := by decide +kernel
theorem dX6_now_156 : decode cX6_now 156 = .ok (.iconst (-1), 1) := by decide +kernel
theorem dX6_now_157 : decode cX6_now 157 = .ok (.ireturn, 1) := by decide +kernel
theorem dX6_asides_0 : decode cX6_asides 0 = .ok (.iconst 0, 1) := by decide +kernel
theorem dX6_asides_1 : decode cX6_asides 1 = .ok (.istore_n 1, 1) := by decide +kernel
theorem dX6_asides_2 : decode cX6_asides 2 = .ok (.iload_n 1, 1) := by decide +kernel
theorem dX6_asides_3 : decode cX6_asides 3 = .ok (.bipush 43, 2) := by decide +kernel
theorem dX6_asides_5 : decode cX6_asides 5 = .ok (.if_icmp .ge 21, 3) := by decide +kernel
theorem dX6_asides_8 : decode cX6_asides 8 = .ok (.aload_n 0, 1) := by decide +kernel
theorem dX6_asides_9 : decode cX6_asides 9 = .ok (.getfield 25, 3) := by decide +kernel
theorem dX6_asides_12 : decode cX6_asides 12 = .ok (.iload_n 1, 1) := by decide +kernel
theorem dX6_asides_13 : decode cX6_asides 13 = .ok (.aload_n 0, 1) := by decide +kernel
theorem dX6_asides_14 : decode cX6_asides 14 = .ok (.getfield 19, 3) := by decide +kernel
theorem dX6_asides_17 : decode cX6_asides 17 = .ok (.iload_n 1, 1) := by decide +kernel
theorem dX6_asides_18 : decode cX6_asides 18 = .ok (.iaload, 1) := by decide +kernel
theorem dX6_asides_19 : decode cX6_asides 19 = .ok (.iastore, 1) := by decide +kernel
theorem dX6_asides_20 : decode cX6_asides 20 = .ok (.iinc 1 1, 3) := by decide +kernel
theorem dX6_asides_23 : decode cX6_asides 23 = .ok (.goto (-21), 3) := by decide +kernel
theorem dX6_asides_26 : decode cX6_asides 26 = .ok (.return_, 1) := by decide +kernel
theorem dX6_backs_0 : decode cX6_backs 0 = .ok (.iconst 0, 1) := by decide +kernel
theorem dX6_backs_1 : decode cX6_backs 1 = .ok (.istore_n 1, 1) := by decide +kernel
theorem dX6_backs_2 : decode cX6_backs 2 = .ok (.iload_n 1, 1) := by decide +kernel
theorem dX6_backs_3 : decode cX6_backs 3 = .ok (.bipush 43, 2) := by decide +kernel
theorem dX6_backs_5 : decode cX6_backs 5 = .ok (.if_icmp .ge 21, 3) := by decide +kernel
theorem dX6_backs_8 : decode cX6_backs 8 = .ok (.aload_n 0, 1) := by decide +kernel
theorem dX6_backs_9 : decode cX6_backs 9 = .ok (.getfield 19, 3) := by decide +kernel
theorem dX6_backs_12 : decode cX6_backs 12 = .ok (.iload_n 1, 1) := by decide +kernel
theorem dX6_backs_13 : decode cX6_backs 13 = .ok (.aload_n 0, 1) := by decide +kernel
theorem dX6_backs_14 : decode cX6_backs 14 = .ok (.getfield 25, 3) := by decide +kernel
theorem dX6_backs_17 : decode cX6_backs 17 = .ok (.iload_n 1, 1) := by decide +kernel
theorem dX6_backs_18 : decode cX6_backs 18 = .ok (.iaload, 1) := by decide +kernel
theorem dX6_backs_19 : decode cX6_backs 19 = .ok (.iastore, 1) := by decide +kernel
theorem dX6_backs_20 : decode cX6_backs 20 = .ok (.iinc 1 1, 3) := by decide +kernel
theorem dX6_backs_23 : decode cX6_backs 23 = .ok (.goto (-21), 3) := by decide +kernel
theorem dX6_backs_26 : decode cX6_backs 26 = .ok (.return_, 1) := by decide +kernel
set_option maxRecDepth 20000 in
theorem ggX6_only_X6_isHouse : GoodIn wsX6_only wsX6_isHouse := goodIn_r _ [5, 6, 7, 8, 4, 9, 42, 43, 44, 45, 46, 47, 48, 49, 50, 51, 52, 53, 54, 55, 56, 57] (by decide +kernel) (by decide +kernel)
set_option maxRecDepth 20000 in
theorem gX6_only_X6_isHouse : GoodIn wsX6_only (wsV RX6 146 RX6 yX6_isHouse wsX6_isHouse) := goodIn_app (goodIn_of _ (by decide +kernel)) ggX6_only_X6_isHouse
set_option maxRecDepth 20000 in
theorem ggX6_only_X6_covering : GoodIn wsX6_only wsX6_covering := goodIn_r _ [13, 14, 15, 16, 17, 4, 18, 19, 20, 21, 22, 23, 24, 25, 26, 27, 28, 29, 30, 6, 31, 32, 33, 34, 35, 36, 37, 38, 42, 43, 44, 45, 46, 47, 48, 49, 50, 51, 52, 53, 54, 55, 56, 57] (by decide +kernel) (by decide +kernel)
set_option maxRecDepth 20000 in
theorem gX6_only_X6_covering : GoodIn wsX6_only (wsV RX6 135 RX6 yX6_covering wsX6_covering) := goodIn_app (goodIn_of _ (by decide +kernel)) ggX6_only_X6_covering
set_option maxRecDepth 20000 in
theorem ggX6_only_X6_many : GoodIn wsX6_only wsX6_many := goodIn_r _ [41] (by decide +kernel) (by decide +kernel)
set_option maxRecDepth 20000 in
theorem gX6_only_X6_many : GoodIn wsX6_only (va_wsS RX6 138 yX6_many wsX6_many) := goodIn_app (goodIn_of _ (by decide +kernel)) ggX6_only_X6_many
theorem dX6_only_0 : decode cX6_only 0 = .ok (.aload_n 0, 1) := by decide +kernel
theorem dX6_only_1 : decode cX6_only 1 = .ok (.iload_n 1, 1) := by decide +kernel
theorem dX6_only_2 : decode cX6_only 2 = .ok (.invokevirtual 146, 3) := by decide +kernel
theorem dX6_only_5 : decode cX6_only 5 = .ok (.ifCond .ne 5, 3) := by decide +kernel
theorem dX6_only_8 : decode cX6_only 8 = .ok (.iconst (-1), 1) := by decide +kernel
theorem dX6_only_9 : decode cX6_only 9 = .ok (.ireturn, 1) := by decide +kernel
theorem dX6_only_10 : decode cX6_only 10 = .ok (.aload_n 0, 1) := by decide +kernel
theorem dX6_only_11 : decode cX6_only 11 = .ok (.iload_n 1, 1) := by decide +kernel
theorem dX6_only_12 : decode cX6_only 12 = .ok (.invokevirtual 135, 3) := by decide +kernel
theorem dX6_only_15 : decode cX6_only 15 = .ok (.istore_n 2, 1) := by decide +kernel
theorem dX6_only_16 : decode cX6_only 16 = .ok (.iload_n 2, 1) := by decide +kernel
theorem dX6_only_17 : decode cX6_only 17 = .ok (.invokestatic 138, 3) := by decide +kernel
theorem dX6_only_20 : decode cX6_only 20 = .ok (.iconst 1, 1) := by decide +kernel
theorem dX6_only_21 : decode cX6_only 21 = .ok (.if_icmp .eq 6, 3) := by decide +kernel
theorem dX6_only_24 : decode cX6_only 24 = .ok (.bipush (-9), 2) := by decide +kernel
theorem dX6_only_26 : decode cX6_only 26 = .ok (.ireturn, 1) := by decide +kernel
theorem dX6_only_27 : decode cX6_only 27 = .ok (.iconst 0, 1) := by decide +kernel
theorem dX6_only_28 : decode cX6_only 28 = .ok (.istore_n 3, 1) := by decide +kernel
theorem dX6_only_29 : decode cX6_only 29 = .ok (.iload_n 2, 1) := by decide +kernel
theorem dX6_only_30 : decode cX6_only 30 = .ok (.iload_n 3, 1) := by decide +kernel
theorem dX6_only_31 : decode cX6_only 31 = .ok (.ishr, 1) := by decide +kernel
theorem dX6_only_32 : decode cX6_only 32 = .ok (.iconst 1, 1) := by decide +kernel
theorem dX6_only_33 : decode cX6_only 33 = .ok (.iand, 1) := by decide +kernel
theorem dX6_only_34 : decode cX6_only 34 = .ok (.ifCond .ne 9, 3) := by decide +kernel
theorem dX6_only_37 : decode cX6_only 37 = .ok (.iinc 3 1, 3) := by decide +kernel
theorem dX6_only_40 : decode cX6_only 40 = .ok (.goto (-11), 3) := by decide +kernel
theorem dX6_only_43 : decode cX6_only 43 = .ok (.iload_n 3, 1) := by decide +kernel
theorem dX6_only_44 : decode cX6_only 44 = .ok (.ireturn, 1) := by decide +kernel
set_option maxRecDepth 20000 in
theorem ggX6_when_X6_isHouse : GoodIn wsX6_when wsX6_isHouse := goodIn_r _ [5, 6, 7, 8, 4, 9, 52, 53, 54, 55, 56, 57, 58, 59, 60, 61, 62, 63, 64, 65, 66, 67] (by decide +kernel) (by decide +kernel)
set_option maxRecDepth 20000 in
theorem gX6_when_X6_isHouse : GoodIn wsX6_when (wsV RX6 146 RX6 yX6_isHouse wsX6_isHouse) := goodIn_app (goodIn_of _ (by decide +kernel)) ggX6_when_X6_isHouse
set_option maxRecDepth 20000 in
theorem ggX6_when_X6_asides : GoodIn wsX6_when wsX6_asides := goodIn_r _ [13, 14, 15, 52, 53, 54, 55, 56, 57, 58, 59, 60, 61, 62, 63, 64, 65, 66, 67] (by decide +kernel) (by decide +kernel)
set_option maxRecDepth 20000 in
theorem gX6_when_X6_asides : GoodIn wsX6_when (wsV RX6 179 RX6 yX6_asides wsX6_asides) := goodIn_app (goodIn_of _ (by decide +kernel)) ggX6_when_X6_asides
set_option maxRecDepth 20000 in
theorem ggX6_when_X6_covering : GoodIn wsX6_when wsX6_covering := goodIn_r _ [19, 15, 20, 21, 22, 4, 23, 24, 25, 26, 27, 28, 29, 30, 31, 32, 33, 34, 35, 6, 36, 37, 38, 39, 40, 41, 42, 43, 52, 53, 54, 55, 56, 57, 58, 59, 60, 61, 62, 63, 64, 65, 66, 67] (by decide +kernel) (by decide +kernel)
set_option maxRecDepth 20000 in
theorem gX6_when_X6_covering : GoodIn wsX6_when (wsV RX6 135 RX6 yX6_covering wsX6_covering) := goodIn_app (goodIn_of _ (by decide +kernel)) ggX6_when_X6_covering
set_option maxRecDepth 20000 in
theorem ggX6_when_X6_grows : GoodIn wsX6_when wsX6_grows := goodIn_r _ [47, 15, 52, 53, 54, 55, 56, 57, 58, 59, 60, 61, 62, 63, 64, 65, 66, 67] (by decide +kernel) (by decide +kernel)
set_option maxRecDepth 20000 in
theorem gX6_when_X6_grows : GoodIn wsX6_when (wsV RX6 155 RX6 yX6_grows wsX6_grows) := goodIn_app (goodIn_of _ (by decide +kernel)) ggX6_when_X6_grows
set_option maxRecDepth 20000 in
theorem ggX6_when_X6_backs : GoodIn wsX6_when wsX6_backs := goodIn_r _ [51, 15, 14, 52, 53, 54, 55, 56, 57, 58, 59, 60, 61, 62, 63, 64, 65, 66, 67] (by decide +kernel) (by decide +kernel)
set_option maxRecDepth 20000 in
theorem gX6_when_X6_backs : GoodIn wsX6_when (wsV RX6 182 RX6 yX6_backs wsX6_backs) := goodIn_app (goodIn_of _ (by decide +kernel)) ggX6_when_X6_backs
theorem dX6_when_0 : decode cX6_when 0 = .ok (.aload_n 0, 1) := by decide +kernel
theorem dX6_when_1 : decode cX6_when 1 = .ok (.iload_n 1, 1) := by decide +kernel
theorem dX6_when_2 : decode cX6_when 2 = .ok (.invokevirtual 146, 3) := by decide +kernel
theorem dX6_when_5 : decode cX6_when 5 = .ok (.ifCond .ne 5, 3) := by decide +kernel
theorem dX6_when_8 : decode cX6_when 8 = .ok (.iconst (-1), 1) := by decide +kernel
theorem dX6_when_9 : decode cX6_when 9 = .ok (.ireturn, 1) := by decide +kernel
theorem dX6_when_10 : decode cX6_when 10 = .ok (.aload_n 0, 1) := by decide +kernel
theorem dX6_when_11 : decode cX6_when 11 = .ok (.invokevirtual 179, 3) := by decide +kernel
theorem dX6_when_14 : decode cX6_when 14 = .ok (.bipush (-9), 2) := by decide +kernel
theorem dX6_when_16 : decode cX6_when 16 = .ok (.istore_n 2, 1) := by decide +kernel
theorem dX6_when_17 : decode cX6_when 17 = .ok (.iconst 0, 1) := by decide +kernel
theorem dX6_when_18 : decode cX6_when 18 = .ok (.istore_n 3, 1) := by decide +kernel
theorem dX6_when_19 : decode cX6_when 19 = .ok (.iload_n 3, 1) := by decide +kernel
theorem dX6_when_20 : decode cX6_when 20 = .ok (.bipush 61, 2) := by decide +kernel
theorem dX6_when_22 : decode cX6_when 22 = .ok (.if_icmp .ge 34, 3) := by decide +kernel
theorem dX6_when_25 : decode cX6_when 25 = .ok (.iload_n 2, 1) := by decide +kernel
theorem dX6_when_26 : decode cX6_when 26 = .ok (.bipush (-9), 2) := by decide +kernel
theorem dX6_when_28 : decode cX6_when 28 = .ok (.if_icmp .ne 28, 3) := by decide +kernel
theorem dX6_when_31 : decode cX6_when 31 = .ok (.aload_n 0, 1) := by decide +kernel
theorem dX6_when_32 : decode cX6_when 32 = .ok (.iload_n 1, 1) := by decide +kernel
theorem dX6_when_33 : decode cX6_when 33 = .ok (.invokevirtual 135, 3) := by decide +kernel
theorem dX6_when_36 : decode cX6_when 36 = .ok (.ifCond .eq 7, 3) := by decide +kernel
theorem dX6_when_39 : decode cX6_when 39 = .ok (.iload_n 3, 1) := by decide +kernel
theorem dX6_when_40 : decode cX6_when 40 = .ok (.goto 5, 3) := by decide +kernel
theorem dX6_when_43 : decode cX6_when 43 = .ok (.bipush (-9), 2) := by decide +kernel
theorem dX6_when_45 : decode cX6_when 45 = .ok (.istore_n 2, 1) := by decide +kernel
theorem dX6_when_46 : decode cX6_when 46 = .ok (.aload_n 0, 1) := by decide +kernel
theorem dX6_when_47 : decode cX6_when 47 = .ok (.invokevirtual 155, 3) := by decide +kernel
theorem dX6_when_50 : decode cX6_when 50 = .ok (.iinc 3 1, 3) := by decide +kernel
theorem dX6_when_53 : decode cX6_when 53 = .ok (.goto (-34), 3) := by decide +kernel
theorem dX6_when_56 : decode cX6_when 56 = .ok (.aload_n 0, 1) := by decide +kernel
theorem dX6_when_57 : decode cX6_when 57 = .ok (.invokevirtual 182, 3) := by decide +kernel
theorem dX6_when_60 : decode cX6_when 60 = .ok (.iload_n 2, 1) := by decide +kernel
theorem dX6_when_61 : decode cX6_when 61 = .ok (.ireturn, 1) := by decide +kernel
set_option maxRecDepth 20000 in
theorem ggX6_wouldCover_X6_isNear : GoodIn wsX6_wouldCover wsX6_isNear := goodIn_r _ [6, 1, 11, 12, 13, 14, 15, 16, 17, 18, 19, 20, 21, 22, 23, 24, 25, 26] (by decide +kernel) (by decide +kernel)
set_option maxRecDepth 20000 in
theorem gX6_wouldCover_X6_isNear : GoodIn wsX6_wouldCover (wsV RX6 116 RX6 yX6_isNear wsX6_isNear) := goodIn_app (goodIn_of _ (by decide +kernel)) ggX6_wouldCover_X6_isNear
set_option maxRecDepth 20000 in
theorem ggX6_wouldCover_X6_tall : GoodIn wsX6_wouldCover wsX6_tall := goodIn_r _ [10, 1, 11, 12, 13, 14, 15, 16, 17, 18, 19, 20, 21, 22, 23, 24, 25, 26] (by decide +kernel) (by decide +kernel)
set_option maxRecDepth 20000 in
theorem gX6_wouldCover_X6_tall : GoodIn wsX6_wouldCover (wsV RX6 126 RX6 yX6_tall wsX6_tall) := goodIn_app (goodIn_of _ (by decide +kernel)) ggX6_wouldCover_X6_tall
theorem dX6_wouldCover_0 : decode cX6_wouldCover 0 = .ok (.iconst 0, 1) := by decide +kernel
theorem dX6_wouldCover_1 : decode cX6_wouldCover 1 = .ok (.istore_n 3, 1) := by decide +kernel
theorem dX6_wouldCover_2 : decode cX6_wouldCover 2 = .ok (.iconst 0, 1) := by decide +kernel
theorem dX6_wouldCover_3 : decode cX6_wouldCover 3 = .ok (.istore 4, 2) := by decide +kernel
theorem dX6_wouldCover_5 : decode cX6_wouldCover 5 = .ok (.iload 4, 2) := by decide +kernel
theorem dX6_wouldCover_7 : decode cX6_wouldCover 7 = .ok (.aload_n 0, 1) := by decide +kernel
theorem dX6_wouldCover_8 : decode cX6_wouldCover 8 = .ok (.getfield 16, 3) := by decide +kernel
theorem dX6_wouldCover_11 : decode cX6_wouldCover 11 = .ok (.iconst 1, 1) := by decide +kernel
theorem dX6_wouldCover_12 : decode cX6_wouldCover 12 = .ok (.iaload, 1) := by decide +kernel
theorem dX6_wouldCover_13 : decode cX6_wouldCover 13 = .ok (.if_icmp .ge 47, 3) := by decide +kernel
theorem dX6_wouldCover_16 : decode cX6_wouldCover 16 = .ok (.iload_n 3, 1) := by decide +kernel
theorem dX6_wouldCover_17 : decode cX6_wouldCover 17 = .ok (.aload_n 0, 1) := by decide +kernel
theorem dX6_wouldCover_18 : decode cX6_wouldCover 18 = .ok (.iload_n 1, 1) := by decide +kernel
theorem dX6_wouldCover_19 : decode cX6_wouldCover 19 = .ok (.bipush 10, 2) := by decide +kernel
theorem dX6_wouldCover_21 : decode cX6_wouldCover 21 = .ok (.idiv, 1) := by decide +kernel
theorem dX6_wouldCover_22 : decode cX6_wouldCover 22 = .ok (.iload_n 1, 1) := by decide +kernel
theorem dX6_wouldCover_23 : decode cX6_wouldCover 23 = .ok (.bipush 10, 2) := by decide +kernel
theorem dX6_wouldCover_25 : decode cX6_wouldCover 25 = .ok (.irem, 1) := by decide +kernel
theorem dX6_wouldCover_26 : decode cX6_wouldCover 26 = .ok (.iload 4, 2) := by decide +kernel
theorem dX6_wouldCover_28 : decode cX6_wouldCover 28 = .ok (.invokevirtual 116, 3) := by decide +kernel
theorem dX6_wouldCover_31 : decode cX6_wouldCover 31 = .ok (.ifCond .eq 20, 3) := by decide +kernel
theorem dX6_wouldCover_34 : decode cX6_wouldCover 34 = .ok (.iload_n 2, 1) := by decide +kernel
theorem dX6_wouldCover_35 : decode cX6_wouldCover 35 = .ok (.aload_n 0, 1) := by decide +kernel
theorem dX6_wouldCover_36 : decode cX6_wouldCover 36 = .ok (.iload 4, 2) := by decide +kernel
theorem dX6_wouldCover_38 : decode cX6_wouldCover 38 = .ok (.invokevirtual 126, 3) := by decide +kernel
theorem dX6_wouldCover_41 : decode cX6_wouldCover 41 = .ok (.if_icmp .le 10, 3) := by decide +kernel
theorem dX6_wouldCover_44 : decode cX6_wouldCover 44 = .ok (.iconst 1, 1) := by decide +kernel
theorem dX6_wouldCover_45 : decode cX6_wouldCover 45 = .ok (.iload 4, 2) := by decide +kernel
theorem dX6_wouldCover_47 : decode cX6_wouldCover 47 = .ok (.ishl, 1) := by decide +kernel
theorem dX6_wouldCover_48 : decode cX6_wouldCover 48 = .ok (.goto 4, 3) := by decide +kernel
theorem dX6_wouldCover_51 : decode cX6_wouldCover 51 = .ok (.iconst 0, 1) := by decide +kernel
theorem dX6_wouldCover_52 : decode cX6_wouldCover 52 = .ok (.ior, 1) := by decide +kernel
theorem dX6_wouldCover_53 : decode cX6_wouldCover 53 = .ok (.istore_n 3, 1) := by decide +kernel
theorem dX6_wouldCover_54 : decode cX6_wouldCover 54 = .ok (.iinc 4 1, 3) := by decide +kernel
theorem dX6_wouldCover_57 : decode cX6_wouldCover 57 = .ok (.goto (-52), 3) := by decide +kernel
theorem dX6_wouldCover_60 : decode cX6_wouldCover 60 = .ok (.iload_n 3, 1) := by decide +kernel
theorem dX6_wouldCover_61 : decode cX6_wouldCover 61 = .ok (.ireturn, 1) := by decide +kernel
set_option maxRecDepth 20000 in
theorem ggX6_where_X6_in : GoodIn wsX6_where wsX6_in := goodIn_r _ [7] (by decide +kernel) (by decide +kernel)
set_option maxRecDepth 20000 in
theorem gX6_where_X6_in : GoodIn wsX6_where (va_wsS RX6 42 yX6_in wsX6_in) := goodIn_app (goodIn_of _ (by decide +kernel)) ggX6_where_X6_in
set_option maxRecDepth 20000 in
theorem ggX6_where_X6_asides : GoodIn wsX6_where wsX6_asides := goodIn_r _ [11, 12, 13, 58, 59, 60, 61, 62, 63, 64, 65, 66, 67, 68, 69, 70, 71, 72, 73] (by decide +kernel) (by decide +kernel)
set_option maxRecDepth 20000 in
theorem gX6_where_X6_asides : GoodIn wsX6_where (wsV RX6 179 RX6 yX6_asides wsX6_asides) := goodIn_app (goodIn_of _ (by decide +kernel)) ggX6_where_X6_asides
set_option maxRecDepth 20000 in
theorem ggX6_where_X6_grows : GoodIn wsX6_where wsX6_grows := goodIn_r _ [17, 13, 58, 59, 60, 61, 62, 63, 64, 65, 66, 67, 68, 69, 70, 71, 72, 73] (by decide +kernel) (by decide +kernel)
set_option maxRecDepth 20000 in
theorem gX6_where_X6_grows : GoodIn wsX6_where (wsV RX6 155 RX6 yX6_grows wsX6_grows) := goodIn_app (goodIn_of _ (by decide +kernel)) ggX6_where_X6_grows
set_option maxRecDepth 20000 in
theorem ggX6_where_X6_covered : GoodIn wsX6_where wsX6_covered := goodIn_r _ [21, 13, 22, 23, 24, 6, 25, 3, 26, 27, 28, 29, 30, 31, 32, 33, 34, 35, 36, 37, 38, 39, 40, 41, 42, 43, 44, 45, 46, 47, 48, 49, 58, 59, 60, 61, 62, 63, 64, 65, 66, 67, 68, 69, 70, 71, 72, 73] (by decide +kernel) (by decide +kernel)
set_option maxRecDepth 20000 in
theorem gX6_where_X6_covered : GoodIn wsX6_where (wsV RX6 158 RX6 yX6_covered wsX6_covered) := goodIn_app (goodIn_of _ (by decide +kernel)) ggX6_where_X6_covered
set_option maxRecDepth 20000 in
theorem ggX6_where_X6_backs : GoodIn wsX6_where wsX6_backs := goodIn_r _ [53, 13, 12, 58, 59, 60, 61, 62, 63, 64, 65, 66, 67, 68, 69, 70, 71, 72, 73] (by decide +kernel) (by decide +kernel)
set_option maxRecDepth 20000 in
theorem gX6_where_X6_backs : GoodIn wsX6_where (wsV RX6 182 RX6 yX6_backs wsX6_backs) := goodIn_app (goodIn_of _ (by decide +kernel)) ggX6_where_X6_backs
set_option maxRecDepth 20000 in
theorem ggX6_where_X6_wouldCover : GoodIn wsX6_where wsX6_wouldCover := goodIn_r _ [57, 3, 38, 39, 40, 6, 41, 46, 47, 48, 49, 58, 59, 60, 61, 62, 63, 64, 65, 66, 67, 68, 69, 70, 71, 72, 73] (by decide +kernel) (by decide +kernel)
set_option maxRecDepth 20000 in
theorem gX6_where_X6_wouldCover : GoodIn wsX6_where (wsV RX6 187 RX6 yX6_wouldCover wsX6_wouldCover) := goodIn_app (goodIn_of _ (by decide +kernel)) ggX6_where_X6_wouldCover
theorem dX6_where_0 : decode cX6_where 0 = .ok (.iload_n 1, 1) := by decide +kernel
theorem dX6_where_1 : decode cX6_where 1 = .ok (.i2l, 1) := by decide +kernel
theorem dX6_where_2 : decode cX6_where 2 = .ok (.lconst 0, 1) := by decide +kernel
theorem dX6_where_3 : decode cX6_where 3 = .ok (.ldc2_w 185, 3) := by decide +kernel
theorem dX6_where_6 : decode cX6_where 6 = .ok (.invokestatic 42, 3) := by decide +kernel
theorem dX6_where_9 : decode cX6_where 9 = .ok (.ifCond .eq 15, 3) := by decide +kernel
theorem dX6_where_12 : decode cX6_where 12 = .ok (.iload_n 2, 1) := by decide +kernel
theorem dX6_where_13 : decode cX6_where 13 = .ok (.i2l, 1) := by decide +kernel
theorem dX6_where_14 : decode cX6_where 14 = .ok (.lconst 0, 1) := by decide +kernel
theorem dX6_where_15 : decode cX6_where 15 = .ok (.ldc2_w 164, 3) := by decide +kernel
theorem dX6_where_18 : decode cX6_where 18 = .ok (.invokestatic 42, 3) := by decide +kernel
theorem dX6_where_21 : decode cX6_where 21 = .ok (.ifCond .ne 5, 3) := by decide +kernel
theorem dX6_where_24 : decode cX6_where 24 = .ok (.iconst (-1), 1) := by decide +kernel
theorem dX6_where_25 : decode cX6_where 25 = .ok (.ireturn, 1) := by decide +kernel
theorem dX6_where_26 : decode cX6_where 26 = .ok (.aload_n 0, 1) := by decide +kernel
theorem dX6_where_27 : decode cX6_where 27 = .ok (.invokevirtual 179, 3) := by decide +kernel
theorem dX6_where_30 : decode cX6_where 30 = .ok (.iconst 0, 1) := by decide +kernel
theorem dX6_where_31 : decode cX6_where 31 = .ok (.istore_n 3, 1) := by decide +kernel
theorem dX6_where_32 : decode cX6_where 32 = .ok (.iload_n 3, 1) := by decide +kernel
theorem dX6_where_33 : decode cX6_where 33 = .ok (.iload_n 1, 1) := by decide +kernel
theorem dX6_where_34 : decode cX6_where 34 = .ok (.if_icmp .ge 13, 3) := by decide +kernel
theorem dX6_where_37 : decode cX6_where 37 = .ok (.aload_n 0, 1) := by decide +kernel
theorem dX6_where_38 : decode cX6_where 38 = .ok (.invokevirtual 155, 3) := by decide +kernel
theorem dX6_where_41 : decode cX6_where 41 = .ok (.iinc 3 1, 3) := by decide +kernel
theorem dX6_where_44 : decode cX6_where 44 = .ok (.goto (-12), 3) := by decide +kernel
theorem dX6_where_47 : decode cX6_where 47 = .ok (.iconst 1, 1) := by decide +kernel
theorem dX6_where_48 : decode cX6_where 48 = .ok (.aload_n 0, 1) := by decide +kernel
theorem dX6_where_49 : decode cX6_where 49 = .ok (.getfield 16, 3) := by decide +kernel
theorem dX6_where_52 : decode cX6_where 52 = .ok (.iconst 1, 1) := by decide +kernel
theorem dX6_where_53 : decode cX6_where 53 = .ok (.iaload, 1) := by decide +kernel
theorem dX6_where_54 : decode cX6_where 54 = .ok (.ishl, 1) := by decide +kernel
theorem dX6_where_55 : decode cX6_where 55 = .ok (.iconst 1, 1) := by decide +kernel
theorem dX6_where_56 : decode cX6_where 56 = .ok (.isub, 1) := by decide +kernel
theorem dX6_where_57 : decode cX6_where 57 = .ok (.aload_n 0, 1) := by decide +kernel
theorem dX6_where_58 : decode cX6_where 58 = .ok (.invokevirtual 158, 3) := by decide +kernel
theorem dX6_where_61 : decode cX6_where 61 = .ok (.iconst (-1), 1) := by decide +kernel
theorem dX6_where_62 : decode cX6_where 62 = .ok (.ixor, 1) := by decide +kernel
theorem dX6_where_63 : decode cX6_where 63 = .ok (.iand, 1) := by decide +kernel
theorem dX6_where_64 : decode cX6_where 64 = .ok (.istore_n 3, 1) := by decide +kernel
theorem dX6_where_65 : decode cX6_where 65 = .ok (.aload_n 0, 1) := by decide +kernel
theorem dX6_where_66 : decode cX6_where 66 = .ok (.invokevirtual 182, 3) := by decide +kernel
theorem dX6_where_69 : decode cX6_where 69 = .ok (.iload_n 3, 1) := by decide +kernel
theorem dX6_where_70 : decode cX6_where 70 = .ok (.ifCond .ne 14, 3) := by decide +kernel
theorem dX6_where_73 : decode cX6_where 73 = .ok (.iload_n 2, 1) := by decide +kernel
theorem dX6_where_74 : decode cX6_where 74 = .ok (.ifCond .ne 7, 3) := by decide +kernel
theorem dX6_where_77 : decode cX6_where 77 = .ok (.iconst 0, 1) := by decide +kernel
theorem dX6_where_78 : decode cX6_where 78 = .ok (.goto 5, 3) := by decide +kernel
theorem dX6_where_81 : decode cX6_where 81 = .ok (.bipush (-9), 2) := by decide +kernel
theorem dX6_where_83 : decode cX6_where 83 = .ok (.ireturn, 1) := by decide +kernel
theorem dX6_where_84 : decode cX6_where 84 = .ok (.iconst 1, 1) := by decide +kernel
theorem dX6_where_85 : decode cX6_where 85 = .ok (.iconst 2, 1) := by decide +kernel
theorem dX6_where_86 : decode cX6_where 86 = .ok (.iload_n 1, 1) := by decide +kernel
theorem dX6_where_87 : decode cX6_where 87 = .ok (.imul, 1) := by decide +kernel
theorem dX6_where_88 : decode cX6_where 88 = .ok (.iadd, 1) := by decide +kernel
theorem dX6_where_89 : decode cX6_where 89 = .ok (.istore 4, 2) := by decide +kernel
theorem dX6_where_91 : decode cX6_where 91 = .ok (.iconst 0, 1) := by decide +kernel
theorem dX6_where_92 : decode cX6_where 92 = .ok (.istore 5, 2) := by decide +kernel
theorem dX6_where_94 : decode cX6_where 94 = .ok (.iload 5, 2) := by decide +kernel
theorem dX6_where_96 : decode cX6_where 96 = .ok (.bipush 100, 2) := by decide +kernel
theorem dX6_where_98 : decode cX6_where 98 = .ok (.if_icmp .ge 45, 3) := by decide +kernel
theorem dX6_where_101 : decode cX6_where 101 = .ok (.iload_n 3, 1) := by decide +kernel
theorem dX6_where_102 : decode cX6_where 102 = .ok (.aload_n 0, 1) := by decide +kernel
theorem dX6_where_103 : decode cX6_where 103 = .ok (.iload 5, 2) := by decide +kernel
theorem dX6_where_105 : decode cX6_where 105 = .ok (.iload 4, 2) := by decide +kernel
theorem dX6_where_107 : decode cX6_where 107 = .ok (.invokevirtual 187, 3) := by decide +kernel
theorem dX6_where_110 : decode cX6_where 110 = .ok (.iconst (-1), 1) := by decide +kernel
theorem dX6_where_111 : decode cX6_where 111 = .ok (.ixor, 1) := by decide +kernel
theorem dX6_where_112 : decode cX6_where 112 = .ok (.iand, 1) := by decide +kernel
theorem dX6_where_113 : decode cX6_where 113 = .ok (.ifCond .ne 24, 3) := by decide +kernel
theorem dX6_where_116 : decode cX6_where 116 = .ok (.iload_n 2, 1) := by decide +kernel
theorem dX6_where_117 : decode cX6_where 117 = .ok (.ifCond .ne 7, 3) := by decide +kernel
theorem dX6_where_120 : decode cX6_where 120 = .ok (.iconst 1, 1) := by decide +kernel
theorem dX6_where_121 : decode cX6_where 121 = .ok (.goto 15, 3) := by decide +kernel
theorem dX6_where_124 : decode cX6_where 124 = .ok (.iload_n 2, 1) := by decide +kernel
theorem dX6_where_125 : decode cX6_where 125 = .ok (.iconst 1, 1) := by decide +kernel
theorem dX6_where_126 : decode cX6_where 126 = .ok (.if_icmp .ne 8, 3) := by decide +kernel
theorem dX6_where_129 : decode cX6_where 129 = .ok (.iload 5, 2) := by decide +kernel
theorem dX6_where_131 : decode cX6_where 131 = .ok (.goto 5, 3) := by decide +kernel
theorem dX6_where_134 : decode cX6_where 134 = .ok (.bipush (-9), 2) := by decide +kernel
theorem dX6_where_136 : decode cX6_where 136 = .ok (.ireturn, 1) := by decide +kernel
theorem dX6_where_137 : decode cX6_where 137 = .ok (.iinc 5 1, 3) := by decide +kernel
theorem dX6_where_140 : decode cX6_where 140 = .ok (.goto (-46), 3) := by decide +kernel
theorem dX6_where_143 : decode cX6_where 143 = .ok (.iconst 0, 1) := by decide +kernel
theorem dX6_where_144 : decode cX6_where 144 = .ok (.istore 5, 2) := by decide +kernel
theorem dX6_where_146 : decode cX6_where 146 = .ok (.iload 5, 2) := by decide +kernel
theorem dX6_where_148 : decode cX6_where 148 = .ok (.bipush 100, 2) := by decide +kernel
theorem dX6_where_150 : decode cX6_where 150 = .ok (.if_icmp .ge 83, 3) := by decide +kernel
theorem dX6_where_153 : decode cX6_where 153 = .ok (.iload_n 3, 1) := by decide +kernel
theorem dX6_where_154 : decode cX6_where 154 = .ok (.aload_n 0, 1) := by decide +kernel
theorem dX6_where_155 : decode cX6_where 155 = .ok (.iload 5, 2) := by decide +kernel
theorem dX6_where_157 : decode cX6_where 157 = .ok (.iload 4, 2) := by decide +kernel
theorem dX6_where_159 : decode cX6_where 159 = .ok (.invokevirtual 187, 3) := by decide +kernel
theorem dX6_where_162 : decode cX6_where 162 = .ok (.iconst (-1), 1) := by decide +kernel
theorem dX6_where_163 : decode cX6_where 163 = .ok (.ixor, 1) := by decide +kernel
theorem dX6_where_164 : decode cX6_where 164 = .ok (.iand, 1) := by decide +kernel
theorem dX6_where_165 : decode cX6_where 165 = .ok (.istore 6, 2) := by decide +kernel
theorem dX6_where_167 : decode cX6_where 167 = .ok (.iload 5, 2) := by decide +kernel
theorem dX6_where_169 : decode cX6_where 169 = .ok (.istore 7, 2) := by decide +kernel
theorem dX6_where_171 : decode cX6_where 171 = .ok (.iload 7, 2) := by decide +kernel
theorem dX6_where_173 : decode cX6_where 173 = .ok (.bipush 100, 2) := by decide +kernel
theorem dX6_where_175 : decode cX6_where 175 = .ok (.if_icmp .ge 52, 3) := by decide +kernel
theorem dX6_where_178 : decode cX6_where 178 = .ok (.iload 6, 2) := by decide +kernel
theorem dX6_where_180 : decode cX6_where 180 = .ok (.iload_n 3, 1) := by decide +kernel
theorem dX6_where_181 : decode cX6_where 181 = .ok (.if_icmp .eq 46, 3) := by decide +kernel
theorem dX6_where_184 : decode cX6_where 184 = .ok (.iload 6, 2) := by decide +kernel
theorem dX6_where_186 : decode cX6_where 186 = .ok (.aload_n 0, 1) := by decide +kernel
theorem dX6_where_187 : decode cX6_where 187 = .ok (.iload 7, 2) := by decide +kernel
theorem dX6_where_189 : decode cX6_where 189 = .ok (.iload 4, 2) := by decide +kernel
theorem dX6_where_191 : decode cX6_where 191 = .ok (.invokevirtual 187, 3) := by decide +kernel
theorem dX6_where_194 : decode cX6_where 194 = .ok (.iconst (-1), 1) := by decide +kernel
theorem dX6_where_195 : decode cX6_where 195 = .ok (.ixor, 1) := by decide +kernel
theorem dX6_where_196 : decode cX6_where 196 = .ok (.iand, 1) := by decide +kernel
theorem dX6_where_197 : decode cX6_where 197 = .ok (.ifCond .ne 24, 3) := by decide +kernel
theorem dX6_where_200 : decode cX6_where 200 = .ok (.iload_n 2, 1) := by decide +kernel
theorem dX6_where_201 : decode cX6_where 201 = .ok (.ifCond .ne 7, 3) := by decide +kernel
theorem dX6_where_204 : decode cX6_where 204 = .ok (.iconst 2, 1) := by decide +kernel
theorem dX6_where_205 : decode cX6_where 205 = .ok (.goto 15, 3) := by decide +kernel
theorem dX6_where_208 : decode cX6_where 208 = .ok (.iload_n 2, 1) := by decide +kernel
theorem dX6_where_209 : decode cX6_where 209 = .ok (.iconst 1, 1) := by decide +kernel
theorem dX6_where_210 : decode cX6_where 210 = .ok (.if_icmp .ne 8, 3) := by decide +kernel
theorem dX6_where_213 : decode cX6_where 213 = .ok (.iload 5, 2) := by decide +kernel
theorem dX6_where_215 : decode cX6_where 215 = .ok (.goto 5, 3) := by decide +kernel
theorem dX6_where_218 : decode cX6_where 218 = .ok (.iload 7, 2) := by decide +kernel
theorem dX6_where_220 : decode cX6_where 220 = .ok (.ireturn, 1) := by decide +kernel
theorem dX6_where_221 : decode cX6_where 221 = .ok (.iinc 7 1, 3) := by decide +kernel
theorem dX6_where_224 : decode cX6_where 224 = .ok (.goto (-53), 3) := by decide +kernel
theorem dX6_where_227 : decode cX6_where 227 = .ok (.iinc 5 1, 3) := by decide +kernel
theorem dX6_where_230 : decode cX6_where 230 = .ok (.goto (-84), 3) := by decide +kernel
theorem dX6_where_233 : decode cX6_where 233 = .ok (.bipush (-9), 2) := by decide +kernel
theorem dX6_where_235 : decode cX6_where 235 = .ok (.ireturn, 1) := by decide +kernel
set_option maxRecDepth 20000 in
theorem ggX6_paid_X6_covers : GoodIn wsX6_paid wsX6_covers := goodIn_r _ [7, 8, 9, 10, 6, 11, 2, 12, 13, 14, 15, 16, 17, 18, 19, 1, 20, 21, 22, 23, 24, 25, 26, 27, 28, 29, 30, 31, 32, 33, 34, 35, 36, 37, 38, 39, 40, 41, 42, 43] (by decide +kernel) (by decide +kernel)
set_option maxRecDepth 20000 in
theorem gX6_paid_X6_covers : GoodIn wsX6_paid (wsV RX6 129 RX6 yX6_covers wsX6_covers) := goodIn_app (goodIn_of _ (by decide +kernel)) ggX6_paid_X6_covers
set_option maxRecDepth 20000 in
theorem ggX6_paid_X6_high : GoodIn wsX6_paid wsX6_high := goodIn_r _ [23, 2, 28, 29, 30, 31, 32, 33, 34, 35, 36, 37, 38, 39, 40, 41, 42, 43] (by decide +kernel) (by decide +kernel)
set_option maxRecDepth 20000 in
theorem gX6_paid_X6_high : GoodIn wsX6_paid (wsV RX6 122 RX6 yX6_high wsX6_high) := goodIn_app (goodIn_of _ (by decide +kernel)) ggX6_paid_X6_high
theorem dX6_paid_0 : decode cX6_paid 0 = .ok (.iconst 0, 1) := by decide +kernel
theorem dX6_paid_1 : decode cX6_paid 1 = .ok (.istore_n 2, 1) := by decide +kernel
theorem dX6_paid_2 : decode cX6_paid 2 = .ok (.iconst 0, 1) := by decide +kernel
theorem dX6_paid_3 : decode cX6_paid 3 = .ok (.istore_n 3, 1) := by decide +kernel
theorem dX6_paid_4 : decode cX6_paid 4 = .ok (.iload_n 3, 1) := by decide +kernel
theorem dX6_paid_5 : decode cX6_paid 5 = .ok (.aload_n 0, 1) := by decide +kernel
theorem dX6_paid_6 : decode cX6_paid 6 = .ok (.getfield 16, 3) := by decide +kernel
theorem dX6_paid_9 : decode cX6_paid 9 = .ok (.iconst 1, 1) := by decide +kernel
theorem dX6_paid_10 : decode cX6_paid 10 = .ok (.iaload, 1) := by decide +kernel
theorem dX6_paid_11 : decode cX6_paid 11 = .ok (.if_icmp .ge 88, 3) := by decide +kernel
theorem dX6_paid_14 : decode cX6_paid 14 = .ok (.bipush (-9), 2) := by decide +kernel
theorem dX6_paid_16 : decode cX6_paid 16 = .ok (.istore 4, 2) := by decide +kernel
theorem dX6_paid_18 : decode cX6_paid 18 = .ok (.iconst 0, 1) := by decide +kernel
theorem dX6_paid_19 : decode cX6_paid 19 = .ok (.istore 5, 2) := by decide +kernel
theorem dX6_paid_21 : decode cX6_paid 21 = .ok (.iload 5, 2) := by decide +kernel
theorem dX6_paid_23 : decode cX6_paid 23 = .ok (.aload_n 0, 1) := by decide +kernel
theorem dX6_paid_24 : decode cX6_paid 24 = .ok (.getfield 19, 3) := by decide +kernel
theorem dX6_paid_27 : decode cX6_paid 27 = .ok (.iconst 1, 1) := by decide +kernel
theorem dX6_paid_28 : decode cX6_paid 28 = .ok (.iaload, 1) := by decide +kernel
theorem dX6_paid_29 : decode cX6_paid 29 = .ok (.if_icmp .ge 50, 3) := by decide +kernel
theorem dX6_paid_32 : decode cX6_paid 32 = .ok (.aload_n 0, 1) := by decide +kernel
theorem dX6_paid_33 : decode cX6_paid 33 = .ok (.iload 5, 2) := by decide +kernel
theorem dX6_paid_35 : decode cX6_paid 35 = .ok (.iload_n 3, 1) := by decide +kernel
theorem dX6_paid_36 : decode cX6_paid 36 = .ok (.invokevirtual 129, 3) := by decide +kernel
theorem dX6_paid_39 : decode cX6_paid 39 = .ok (.ifCond .eq 30, 3) := by decide +kernel
theorem dX6_paid_42 : decode cX6_paid 42 = .ok (.iload 4, 2) := by decide +kernel
theorem dX6_paid_44 : decode cX6_paid 44 = .ok (.bipush (-9), 2) := by decide +kernel
theorem dX6_paid_46 : decode cX6_paid 46 = .ok (.if_icmp .eq 18, 3) := by decide +kernel
theorem dX6_paid_49 : decode cX6_paid 49 = .ok (.aload_n 0, 1) := by decide +kernel
theorem dX6_paid_50 : decode cX6_paid 50 = .ok (.iload 5, 2) := by decide +kernel
theorem dX6_paid_52 : decode cX6_paid 52 = .ok (.invokevirtual 122, 3) := by decide +kernel
theorem dX6_paid_55 : decode cX6_paid 55 = .ok (.aload_n 0, 1) := by decide +kernel
theorem dX6_paid_56 : decode cX6_paid 56 = .ok (.iload 4, 2) := by decide +kernel
theorem dX6_paid_58 : decode cX6_paid 58 = .ok (.invokevirtual 122, 3) := by decide +kernel
theorem dX6_paid_61 : decode cX6_paid 61 = .ok (.if_icmp .le 8, 3) := by decide +kernel
theorem dX6_paid_64 : decode cX6_paid 64 = .ok (.iload 5, 2) := by decide +kernel
theorem dX6_paid_66 : decode cX6_paid 66 = .ok (.goto 5, 3) := by decide +kernel
theorem dX6_paid_69 : decode cX6_paid 69 = .ok (.iload 4, 2) := by decide +kernel
theorem dX6_paid_71 : decode cX6_paid 71 = .ok (.istore 4, 2) := by decide +kernel
theorem dX6_paid_73 : decode cX6_paid 73 = .ok (.iinc 5 1, 3) := by decide +kernel
theorem dX6_paid_76 : decode cX6_paid 76 = .ok (.goto (-55), 3) := by decide +kernel
theorem dX6_paid_79 : decode cX6_paid 79 = .ok (.iload_n 2, 1) := by decide +kernel
theorem dX6_paid_80 : decode cX6_paid 80 = .ok (.iload 4, 2) := by decide +kernel
theorem dX6_paid_82 : decode cX6_paid 82 = .ok (.iload_n 1, 1) := by decide +kernel
theorem dX6_paid_83 : decode cX6_paid 83 = .ok (.if_icmp .ne 7, 3) := by decide +kernel
theorem dX6_paid_86 : decode cX6_paid 86 = .ok (.iconst 1, 1) := by decide +kernel
theorem dX6_paid_87 : decode cX6_paid 87 = .ok (.goto 4, 3) := by decide +kernel
theorem dX6_paid_90 : decode cX6_paid 90 = .ok (.iconst 0, 1) := by decide +kernel
theorem dX6_paid_91 : decode cX6_paid 91 = .ok (.iadd, 1) := by decide +kernel
theorem dX6_paid_92 : decode cX6_paid 92 = .ok (.istore_n 2, 1) := by decide +kernel
theorem dX6_paid_93 : decode cX6_paid 93 = .ok (.iinc 3 1, 3) := by decide +kernel
theorem dX6_paid_96 : decode cX6_paid 96 = .ok (.goto (-92), 3) := by decide +kernel
theorem dX6_paid_99 : decode cX6_paid 99 = .ok (.iload_n 2, 1) := by decide +kernel
theorem dX6_paid_100 : decode cX6_paid 100 = .ok (.ireturn, 1) := by decide +kernel
set_option maxRecDepth 20000 in
theorem ggX6_sold_X6_isTree : GoodIn wsX6_sold wsX6_isTree := goodIn_r _ [6, 1, 7, 8, 5, 9, 39, 40, 41, 42, 43, 44, 45, 46, 47, 48, 49, 50, 51, 52, 53, 54] (by decide +kernel) (by decide +kernel)
set_option maxRecDepth 20000 in
theorem gX6_sold_X6_isTree : GoodIn wsX6_sold (wsV RX6 141 RX6 yX6_isTree wsX6_isTree) := goodIn_app (goodIn_of _ (by decide +kernel)) ggX6_sold_X6_isTree
set_option maxRecDepth 20000 in
theorem ggX6_sold_X6_paid : GoodIn wsX6_sold wsX6_paid := goodIn_r _ [13, 14, 1, 15, 16, 17, 5, 18, 19, 20, 21, 22, 23, 24, 25, 26, 27, 28, 29, 30, 31, 32, 33, 34, 35, 36, 37, 38, 39, 40, 41, 42, 43, 44, 45, 46, 47, 48, 49, 50, 51, 52, 53, 54] (by decide +kernel) (by decide +kernel)
set_option maxRecDepth 20000 in
theorem gX6_sold_X6_paid : GoodIn wsX6_sold (wsV RX6 191 RX6 yX6_paid wsX6_paid) := goodIn_app (goodIn_of _ (by decide +kernel)) ggX6_sold_X6_paid
theorem dX6_sold_0 : decode cX6_sold 0 = .ok (.iload_n 1, 1) := by decide +kernel
theorem dX6_sold_1 : decode cX6_sold 1 = .ok (.iconst (-1), 1) := by decide +kernel
theorem dX6_sold_2 : decode cX6_sold 2 = .ok (.if_icmp .eq 13, 3) := by decide +kernel
theorem dX6_sold_5 : decode cX6_sold 5 = .ok (.aload_n 0, 1) := by decide +kernel
theorem dX6_sold_6 : decode cX6_sold 6 = .ok (.iload_n 1, 1) := by decide +kernel
theorem dX6_sold_7 : decode cX6_sold 7 = .ok (.invokevirtual 141, 3) := by decide +kernel
theorem dX6_sold_10 : decode cX6_sold 10 = .ok (.ifCond .ne 5, 3) := by decide +kernel
theorem dX6_sold_13 : decode cX6_sold 13 = .ok (.iconst (-1), 1) := by decide +kernel
theorem dX6_sold_14 : decode cX6_sold 14 = .ok (.ireturn, 1) := by decide +kernel
theorem dX6_sold_15 : decode cX6_sold 15 = .ok (.iload_n 1, 1) := by decide +kernel
theorem dX6_sold_16 : decode cX6_sold 16 = .ok (.ifCond .lt 9, 3) := by decide +kernel
theorem dX6_sold_19 : decode cX6_sold 19 = .ok (.aload_n 0, 1) := by decide +kernel
theorem dX6_sold_20 : decode cX6_sold 20 = .ok (.iload_n 1, 1) := by decide +kernel
theorem dX6_sold_21 : decode cX6_sold 21 = .ok (.invokevirtual 191, 3) := by decide +kernel
theorem dX6_sold_24 : decode cX6_sold 24 = .ok (.ireturn, 1) := by decide +kernel
theorem dX6_sold_25 : decode cX6_sold 25 = .ok (.bipush (-9), 2) := by decide +kernel
theorem dX6_sold_27 : decode cX6_sold 27 = .ok (.istore_n 2, 1) := by decide +kernel
theorem dX6_sold_28 : decode cX6_sold 28 = .ok (.iconst 0, 1) := by decide +kernel
theorem dX6_sold_29 : decode cX6_sold 29 = .ok (.istore_n 3, 1) := by decide +kernel
theorem dX6_sold_30 : decode cX6_sold 30 = .ok (.iload_n 3, 1) := by decide +kernel
theorem dX6_sold_31 : decode cX6_sold 31 = .ok (.aload_n 0, 1) := by decide +kernel
theorem dX6_sold_32 : decode cX6_sold 32 = .ok (.getfield 19, 3) := by decide +kernel
theorem dX6_sold_35 : decode cX6_sold 35 = .ok (.iconst 1, 1) := by decide +kernel
theorem dX6_sold_36 : decode cX6_sold 36 = .ok (.iaload, 1) := by decide +kernel
theorem dX6_sold_37 : decode cX6_sold 37 = .ok (.if_icmp .ge 43, 3) := by decide +kernel
theorem dX6_sold_40 : decode cX6_sold 40 = .ok (.aload_n 0, 1) := by decide +kernel
theorem dX6_sold_41 : decode cX6_sold 41 = .ok (.iload_n 3, 1) := by decide +kernel
theorem dX6_sold_42 : decode cX6_sold 42 = .ok (.invokevirtual 191, 3) := by decide +kernel
theorem dX6_sold_45 : decode cX6_sold 45 = .ok (.istore 4, 2) := by decide +kernel
theorem dX6_sold_47 : decode cX6_sold 47 = .ok (.iload 4, 2) := by decide +kernel
theorem dX6_sold_49 : decode cX6_sold 49 = .ok (.ifCond .le 23, 3) := by decide +kernel
theorem dX6_sold_52 : decode cX6_sold 52 = .ok (.iload_n 2, 1) := by decide +kernel
theorem dX6_sold_53 : decode cX6_sold 53 = .ok (.bipush (-9), 2) := by decide +kernel
theorem dX6_sold_55 : decode cX6_sold 55 = .ok (.if_icmp .eq 13, 3) := by decide +kernel
theorem dX6_sold_58 : decode cX6_sold 58 = .ok (.iload 4, 2) := by decide +kernel
theorem dX6_sold_60 : decode cX6_sold 60 = .ok (.aload_n 0, 1) := by decide +kernel
theorem dX6_sold_61 : decode cX6_sold 61 = .ok (.iload_n 2, 1) := by decide +kernel
theorem dX6_sold_62 : decode cX6_sold 62 = .ok (.invokevirtual 191, 3) := by decide +kernel
theorem dX6_sold_65 : decode cX6_sold 65 = .ok (.if_icmp .le 7, 3) := by decide +kernel
theorem dX6_sold_68 : decode cX6_sold 68 = .ok (.iload_n 3, 1) := by decide +kernel
theorem dX6_sold_69 : decode cX6_sold 69 = .ok (.goto 4, 3) := by decide +kernel
theorem dX6_sold_72 : decode cX6_sold 72 = .ok (.iload_n 2, 1) := by decide +kernel
theorem dX6_sold_73 : decode cX6_sold 73 = .ok (.istore_n 2, 1) := by decide +kernel
theorem dX6_sold_74 : decode cX6_sold 74 = .ok (.iinc 3 1, 3) := by decide +kernel
theorem dX6_sold_77 : decode cX6_sold 77 = .ok (.goto (-47), 3) := by decide +kernel
theorem dX6_sold_80 : decode cX6_sold 80 = .ok (.iload_n 2, 1) := by decide +kernel
theorem dX6_sold_81 : decode cX6_sold 81 = .ok (.ireturn, 1) := by decide +kernel
set_option maxRecDepth 20000 in
theorem ggX6_ribbons_X6_isTree : GoodIn wsX6_ribbons wsX6_isTree := goodIn_r _ [7, 8, 9, 10, 6, 11, 32, 33, 34, 35, 36, 37, 38, 39, 40, 41, 42, 43, 44, 45, 46, 47] (by decide +kernel) (by decide +kernel)
set_option maxRecDepth 20000 in
theorem gX6_ribbons_X6_isTree : GoodIn wsX6_ribbons (wsV RX6 141 RX6 yX6_isTree wsX6_isTree) := goodIn_app (goodIn_of _ (by decide +kernel)) ggX6_ribbons_X6_isTree
set_option maxRecDepth 20000 in
theorem ggX6_ribbons_X6_isInReach : GoodIn wsX6_ribbons wsX6_isInReach := goodIn_r _ [15, 8, 16, 17, 18, 6, 19, 20, 21, 22, 23, 1, 32, 33, 34, 35, 36, 37, 38, 39, 40, 41, 42, 43, 44, 45, 46, 47] (by decide +kernel) (by decide +kernel)
set_option maxRecDepth 20000 in
theorem gX6_ribbons_X6_isInReach : GoodIn wsX6_ribbons (wsV RX6 119 RX6 yX6_isInReach wsX6_isInReach) := goodIn_app (goodIn_of _ (by decide +kernel)) ggX6_ribbons_X6_isInReach
set_option maxRecDepth 20000 in
theorem ggX6_ribbons_X6_tall : GoodIn wsX6_ribbons wsX6_tall := goodIn_r _ [27, 1, 32, 33, 34, 35, 36, 37, 38, 39, 40, 41, 42, 43, 44, 45, 46, 47] (by decide +kernel) (by decide +kernel)
set_option maxRecDepth 20000 in
theorem gX6_ribbons_X6_tall : GoodIn wsX6_ribbons (wsV RX6 126 RX6 yX6_tall wsX6_tall) := goodIn_app (goodIn_of _ (by decide +kernel)) ggX6_ribbons_X6_tall
set_option maxRecDepth 20000 in
theorem ggX6_ribbons_X6_high : GoodIn wsX6_ribbons wsX6_high := goodIn_r _ [31, 8, 32, 33, 34, 35, 36, 37, 38, 39, 40, 41, 42, 43, 44, 45, 46, 47] (by decide +kernel) (by decide +kernel)
set_option maxRecDepth 20000 in
theorem gX6_ribbons_X6_high : GoodIn wsX6_ribbons (wsV RX6 122 RX6 yX6_high wsX6_high) := goodIn_app (goodIn_of _ (by decide +kernel)) ggX6_ribbons_X6_high
theorem dX6_ribbons_0 : decode cX6_ribbons 0 = .ok (.aload_n 0, 1) := by decide +kernel
theorem dX6_ribbons_1 : decode cX6_ribbons 1 = .ok (.getfield 16, 3) := by decide +kernel
theorem dX6_ribbons_4 : decode cX6_ribbons 4 = .ok (.iconst 1, 1) := by decide +kernel
theorem dX6_ribbons_5 : decode cX6_ribbons 5 = .ok (.iaload, 1) := by decide +kernel
theorem dX6_ribbons_6 : decode cX6_ribbons 6 = .ok (.ifCond .ne 6, 3) := by decide +kernel
theorem dX6_ribbons_9 : decode cX6_ribbons 9 = .ok (.bipush (-9), 2) := by decide +kernel
theorem dX6_ribbons_11 : decode cX6_ribbons 11 = .ok (.ireturn, 1) := by decide +kernel
theorem dX6_ribbons_12 : decode cX6_ribbons 12 = .ok (.bipush (-5), 2) := by decide +kernel
theorem dX6_ribbons_14 : decode cX6_ribbons 14 = .ok (.istore_n 1, 1) := by decide +kernel
theorem dX6_ribbons_15 : decode cX6_ribbons 15 = .ok (.iconst 1, 1) := by decide +kernel
theorem dX6_ribbons_16 : decode cX6_ribbons 16 = .ok (.istore_n 2, 1) := by decide +kernel
theorem dX6_ribbons_17 : decode cX6_ribbons 17 = .ok (.iconst 0, 1) := by decide +kernel
theorem dX6_ribbons_18 : decode cX6_ribbons 18 = .ok (.istore_n 3, 1) := by decide +kernel
theorem dX6_ribbons_19 : decode cX6_ribbons 19 = .ok (.iload_n 3, 1) := by decide +kernel
theorem dX6_ribbons_20 : decode cX6_ribbons 20 = .ok (.aload_n 0, 1) := by decide +kernel
theorem dX6_ribbons_21 : decode cX6_ribbons 21 = .ok (.getfield 16, 3) := by decide +kernel
theorem dX6_ribbons_24 : decode cX6_ribbons 24 = .ok (.iconst 1, 1) := by decide +kernel
theorem dX6_ribbons_25 : decode cX6_ribbons 25 = .ok (.iaload, 1) := by decide +kernel
theorem dX6_ribbons_26 : decode cX6_ribbons 26 = .ok (.if_icmp .ge 14, 3) := by decide +kernel
theorem dX6_ribbons_29 : decode cX6_ribbons 29 = .ok (.iload_n 2, 1) := by decide +kernel
theorem dX6_ribbons_30 : decode cX6_ribbons 30 = .ok (.bipush 7, 2) := by decide +kernel
theorem dX6_ribbons_32 : decode cX6_ribbons 32 = .ok (.imul, 1) := by decide +kernel
theorem dX6_ribbons_33 : decode cX6_ribbons 33 = .ok (.istore_n 2, 1) := by decide +kernel
theorem dX6_ribbons_34 : decode cX6_ribbons 34 = .ok (.iinc 3 1, 3) := by decide +kernel
theorem dX6_ribbons_37 : decode cX6_ribbons 37 = .ok (.goto (-18), 3) := by decide +kernel
theorem dX6_ribbons_40 : decode cX6_ribbons 40 = .ok (.iconst 0, 1) := by decide +kernel
theorem dX6_ribbons_41 : decode cX6_ribbons 41 = .ok (.istore_n 3, 1) := by decide +kernel
theorem dX6_ribbons_42 : decode cX6_ribbons 42 = .ok (.iload_n 3, 1) := by decide +kernel
theorem dX6_ribbons_43 : decode cX6_ribbons 43 = .ok (.iload_n 2, 1) := by decide +kernel
theorem dX6_ribbons_44 : decode cX6_ribbons 44 = .ok (.if_icmp .ge 215, 3) := by decide +kernel
theorem dX6_ribbons_47 : decode cX6_ribbons 47 = .ok (.iconst 0, 1) := by decide +kernel
theorem dX6_ribbons_48 : decode cX6_ribbons 48 = .ok (.istore 4, 2) := by decide +kernel
theorem dX6_ribbons_50 : decode cX6_ribbons 50 = .ok (.iload 4, 2) := by decide +kernel
theorem dX6_ribbons_52 : decode cX6_ribbons 52 = .ok (.bipush 7, 2) := by decide +kernel
theorem dX6_ribbons_54 : decode cX6_ribbons 54 = .ok (.if_icmp .ge 17, 3) := by decide +kernel
theorem dX6_ribbons_57 : decode cX6_ribbons 57 = .ok (.aload_n 0, 1) := by decide +kernel
theorem dX6_ribbons_58 : decode cX6_ribbons 58 = .ok (.getfield 28, 3) := by decide +kernel
theorem dX6_ribbons_61 : decode cX6_ribbons 61 = .ok (.iload 4, 2) := by decide +kernel
theorem dX6_ribbons_63 : decode cX6_ribbons 63 = .ok (.iconst 0, 1) := by decide +kernel
theorem dX6_ribbons_64 : decode cX6_ribbons 64 = .ok (.iastore, 1) := by decide +kernel
theorem dX6_ribbons_65 : decode cX6_ribbons 65 = .ok (.iinc 4 1, 3) := by decide +kernel
theorem dX6_ribbons_68 : decode cX6_ribbons 68 = .ok (.goto (-18), 3) := by decide +kernel
theorem dX6_ribbons_71 : decode cX6_ribbons 71 = .ok (.iload_n 3, 1) := by decide +kernel
theorem dX6_ribbons_72 : decode cX6_ribbons 72 = .ok (.istore 4, 2) := by decide +kernel
theorem dX6_ribbons_74 : decode cX6_ribbons 74 = .ok (.iconst 1, 1) := by decide +kernel
theorem dX6_ribbons_75 : decode cX6_ribbons 75 = .ok (.istore 5, 2) := by decide +kernel
theorem dX6_ribbons_77 : decode cX6_ribbons 77 = .ok (.iconst 0, 1) := by decide +kernel
theorem dX6_ribbons_78 : decode cX6_ribbons 78 = .ok (.istore 6, 2) := by decide +kernel
theorem dX6_ribbons_80 : decode cX6_ribbons 80 = .ok (.iload 6, 2) := by decide +kernel
theorem dX6_ribbons_82 : decode cX6_ribbons 82 = .ok (.aload_n 0, 1) := by decide +kernel
theorem dX6_ribbons_83 : decode cX6_ribbons 83 = .ok (.getfield 16, 3) := by decide +kernel
theorem dX6_ribbons_86 : decode cX6_ribbons 86 = .ok (.iconst 1, 1) := by decide +kernel
theorem dX6_ribbons_87 : decode cX6_ribbons 87 = .ok (.iaload, 1) := by decide +kernel
theorem dX6_ribbons_88 : decode cX6_ribbons 88 = .ok (.if_icmp .ge 112, 3) := by decide +kernel
theorem dX6_ribbons_91 : decode cX6_ribbons 91 = .ok (.iload 5, 2) := by decide +kernel
theorem dX6_ribbons_93 : decode cX6_ribbons 93 = .ok (.ifCond .eq 107, 3) := by decide +kernel
theorem dX6_ribbons_96 : decode cX6_ribbons 96 = .ok (.iload 4, 2) := by decide +kernel
theorem dX6_ribbons_98 : decode cX6_ribbons 98 = .ok (.bipush 7, 2) := by decide +kernel
theorem dX6_ribbons_100 : decode cX6_ribbons 100 = .ok (.irem, 1) := by decide +kernel
theorem dX6_ribbons_101 : decode cX6_ribbons 101 = .ok (.istore 7, 2) := by decide +kernel
theorem dX6_ribbons_103 : decode cX6_ribbons 103 = .ok (.iload 4, 2) := by decide +kernel
theorem dX6_ribbons_105 : decode cX6_ribbons 105 = .ok (.bipush 7, 2) := by decide +kernel
theorem dX6_ribbons_107 : decode cX6_ribbons 107 = .ok (.idiv, 1) := by decide +kernel
theorem dX6_ribbons_108 : decode cX6_ribbons 108 = .ok (.istore 4, 2) := by decide +kernel
theorem dX6_ribbons_110 : decode cX6_ribbons 110 = .ok (.aload_n 0, 1) := by decide +kernel
theorem dX6_ribbons_111 : decode cX6_ribbons 111 = .ok (.iload 7, 2) := by decide +kernel
theorem dX6_ribbons_113 : decode cX6_ribbons 113 = .ok (.invokevirtual 141, 3) := by decide +kernel
theorem dX6_ribbons_116 : decode cX6_ribbons 116 = .ok (.ifCond .eq 18, 3) := by decide +kernel
theorem dX6_ribbons_119 : decode cX6_ribbons 119 = .ok (.aload_n 0, 1) := by decide +kernel
theorem dX6_ribbons_120 : decode cX6_ribbons 120 = .ok (.iload 7, 2) := by decide +kernel
theorem dX6_ribbons_122 : decode cX6_ribbons 122 = .ok (.iload 6, 2) := by decide +kernel
theorem dX6_ribbons_124 : decode cX6_ribbons 124 = .ok (.invokevirtual 119, 3) := by decide +kernel
theorem dX6_ribbons_127 : decode cX6_ribbons 127 = .ok (.ifCond .eq 7, 3) := by decide +kernel
theorem dX6_ribbons_130 : decode cX6_ribbons 130 = .ok (.iconst 1, 1) := by decide +kernel
theorem dX6_ribbons_131 : decode cX6_ribbons 131 = .ok (.goto 4, 3) := by decide +kernel
theorem dX6_ribbons_134 : decode cX6_ribbons 134 = .ok (.iconst 0, 1) := by decide +kernel
theorem dX6_ribbons_135 : decode cX6_ribbons 135 = .ok (.istore 5, 2) := by decide +kernel
theorem dX6_ribbons_137 : decode cX6_ribbons 137 = .ok (.iload 5, 2) := by decide +kernel
theorem dX6_ribbons_139 : decode cX6_ribbons 139 = .ok (.ifCond .eq 21, 3) := by decide +kernel
theorem dX6_ribbons_142 : decode cX6_ribbons 142 = .ok (.aload_n 0, 1) := by decide +kernel
theorem dX6_ribbons_143 : decode cX6_ribbons 143 = .ok (.iload 6, 2) := by decide +kernel
theorem dX6_ribbons_145 : decode cX6_ribbons 145 = .ok (.invokevirtual 126, 3) := by decide +kernel
theorem dX6_ribbons_148 : decode cX6_ribbons 148 = .ok (.iconst 1, 1) := by decide +kernel
theorem dX6_ribbons_149 : decode cX6_ribbons 149 = .ok (.iadd, 1) := by decide +kernel
theorem dX6_ribbons_150 : decode cX6_ribbons 150 = .ok (.aload_n 0, 1) := by decide +kernel
theorem dX6_ribbons_151 : decode cX6_ribbons 151 = .ok (.iload 7, 2) := by decide +kernel
theorem dX6_ribbons_153 : decode cX6_ribbons 153 = .ok (.invokevirtual 122, 3) := by decide +kernel
theorem dX6_ribbons_156 : decode cX6_ribbons 156 = .ok (.isub, 1) := by decide +kernel
theorem dX6_ribbons_157 : decode cX6_ribbons 157 = .ok (.goto 4, 3) := by decide +kernel
theorem dX6_ribbons_160 : decode cX6_ribbons 160 = .ok (.iconst 0, 1) := by decide +kernel
theorem dX6_ribbons_161 : decode cX6_ribbons 161 = .ok (.istore 8, 2) := by decide +kernel
theorem dX6_ribbons_163 : decode cX6_ribbons 163 = .ok (.aload_n 0, 1) := by decide +kernel
theorem dX6_ribbons_164 : decode cX6_ribbons 164 = .ok (.getfield 28, 3) := by decide +kernel
theorem dX6_ribbons_167 : decode cX6_ribbons 167 = .ok (.iload 7, 2) := by decide +kernel
theorem dX6_ribbons_169 : decode cX6_ribbons 169 = .ok (.iload 8, 2) := by decide +kernel
theorem dX6_ribbons_171 : decode cX6_ribbons 171 = .ok (.aload_n 0, 1) := by decide +kernel
theorem dX6_ribbons_172 : decode cX6_ribbons 172 = .ok (.getfield 28, 3) := by decide +kernel
theorem dX6_ribbons_175 : decode cX6_ribbons 175 = .ok (.iload 7, 2) := by decide +kernel
theorem dX6_ribbons_177 : decode cX6_ribbons 177 = .ok (.iaload, 1) := by decide +kernel
theorem dX6_ribbons_178 : decode cX6_ribbons 178 = .ok (.if_icmp .le 8, 3) := by decide +kernel
theorem dX6_ribbons_181 : decode cX6_ribbons 181 = .ok (.iload 8, 2) := by decide +kernel
theorem dX6_ribbons_183 : decode cX6_ribbons 183 = .ok (.goto 10, 3) := by decide +kernel
theorem dX6_ribbons_186 : decode cX6_ribbons 186 = .ok (.aload_n 0, 1) := by decide +kernel
theorem dX6_ribbons_187 : decode cX6_ribbons 187 = .ok (.getfield 28, 3) := by decide +kernel
theorem dX6_ribbons_190 : decode cX6_ribbons 190 = .ok (.iload 7, 2) := by decide +kernel
theorem dX6_ribbons_192 : decode cX6_ribbons 192 = .ok (.iaload, 1) := by decide +kernel
theorem dX6_ribbons_193 : decode cX6_ribbons 193 = .ok (.iastore, 1) := by decide +kernel
theorem dX6_ribbons_194 : decode cX6_ribbons 194 = .ok (.iinc 6 1, 3) := by decide +kernel
theorem dX6_ribbons_197 : decode cX6_ribbons 197 = .ok (.goto (-117), 3) := by decide +kernel
theorem dX6_ribbons_200 : decode cX6_ribbons 200 = .ok (.iconst 0, 1) := by decide +kernel
theorem dX6_ribbons_201 : decode cX6_ribbons 201 = .ok (.istore 6, 2) := by decide +kernel
theorem dX6_ribbons_203 : decode cX6_ribbons 203 = .ok (.iconst 0, 1) := by decide +kernel
theorem dX6_ribbons_204 : decode cX6_ribbons 204 = .ok (.istore 7, 2) := by decide +kernel
theorem dX6_ribbons_206 : decode cX6_ribbons 206 = .ok (.iload 7, 2) := by decide +kernel
theorem dX6_ribbons_208 : decode cX6_ribbons 208 = .ok (.bipush 7, 2) := by decide +kernel
theorem dX6_ribbons_210 : decode cX6_ribbons 210 = .ok (.if_icmp .ge 21, 3) := by decide +kernel
theorem dX6_ribbons_213 : decode cX6_ribbons 213 = .ok (.iload 6, 2) := by decide +kernel
theorem dX6_ribbons_215 : decode cX6_ribbons 215 = .ok (.aload_n 0, 1) := by decide +kernel
theorem dX6_ribbons_216 : decode cX6_ribbons 216 = .ok (.getfield 28, 3) := by decide +kernel
theorem dX6_ribbons_219 : decode cX6_ribbons 219 = .ok (.iload 7, 2) := by decide +kernel
theorem dX6_ribbons_221 : decode cX6_ribbons 221 = .ok (.iaload, 1) := by decide +kernel
theorem dX6_ribbons_222 : decode cX6_ribbons 222 = .ok (.iadd, 1) := by decide +kernel
theorem dX6_ribbons_223 : decode cX6_ribbons 223 = .ok (.istore 6, 2) := by decide +kernel
theorem dX6_ribbons_225 : decode cX6_ribbons 225 = .ok (.iinc 7 1, 3) := by decide +kernel
theorem dX6_ribbons_228 : decode cX6_ribbons 228 = .ok (.goto (-22), 3) := by decide +kernel
theorem dX6_ribbons_231 : decode cX6_ribbons 231 = .ok (.iload 5, 2) := by decide +kernel
theorem dX6_ribbons_233 : decode cX6_ribbons 233 = .ok (.ifCond .eq 18, 3) := by decide +kernel
theorem dX6_ribbons_236 : decode cX6_ribbons 236 = .ok (.iload_n 1, 1) := by decide +kernel
theorem dX6_ribbons_237 : decode cX6_ribbons 237 = .ok (.ifCond .lt 9, 3) := by decide +kernel
theorem dX6_ribbons_240 : decode cX6_ribbons 240 = .ok (.iload 6, 2) := by decide +kernel
theorem dX6_ribbons_242 : decode cX6_ribbons 242 = .ok (.iload_n 1, 1) := by decide +kernel
theorem dX6_ribbons_243 : decode cX6_ribbons 243 = .ok (.if_icmp .ge 8, 3) := by decide +kernel
theorem dX6_ribbons_246 : decode cX6_ribbons 246 = .ok (.iload 6, 2) := by decide +kernel
theorem dX6_ribbons_248 : decode cX6_ribbons 248 = .ok (.goto 4, 3) := by decide +kernel
theorem dX6_ribbons_251 : decode cX6_ribbons 251 = .ok (.iload_n 1, 1) := by decide +kernel
theorem dX6_ribbons_252 : decode cX6_ribbons 252 = .ok (.istore_n 1, 1) := by decide +kernel
theorem dX6_ribbons_253 : decode cX6_ribbons 253 = .ok (.iinc 3 1, 3) := by decide +kernel
theorem dX6_ribbons_256 : decode cX6_ribbons 256 = .ok (.goto (-214), 3) := by decide +kernel
theorem dX6_ribbons_259 : decode cX6_ribbons 259 = .ok (.iload_n 1, 1) := by decide +kernel
theorem dX6_ribbons_260 : decode cX6_ribbons 260 = .ok (.ireturn, 1) := by decide +kernel
set_option maxRecDepth 20000 in
theorem ggX6_tracks_X6_in : GoodIn wsX6_tracks wsX6_in := goodIn_r _ [4] (by decide +kernel) (by decide +kernel)
set_option maxRecDepth 20000 in
theorem gX6_tracks_X6_in : GoodIn wsX6_tracks (va_wsS RX6 42 yX6_in wsX6_in) := goodIn_app (goodIn_of _ (by decide +kernel)) ggX6_tracks_X6_in
set_option maxRecDepth 20000 in
theorem ggX6_tracks_X6_isTree : GoodIn wsX6_tracks wsX6_isTree := goodIn_r _ [8, 9, 1, 2, 3, 4, 33, 34, 35, 36, 37, 38, 39, 40, 41, 42, 43, 44, 45, 46, 47, 48] (by decide +kernel) (by decide +kernel)
set_option maxRecDepth 20000 in
theorem gX6_tracks_X6_isTree : GoodIn wsX6_tracks (wsV RX6 141 RX6 yX6_isTree wsX6_isTree) := goodIn_app (goodIn_of _ (by decide +kernel)) ggX6_tracks_X6_isTree
set_option maxRecDepth 20000 in
theorem ggX6_tracks_X6_isHouse : GoodIn wsX6_tracks wsX6_isHouse := goodIn_r _ [13, 14, 1, 2, 3, 4, 33, 34, 35, 36, 37, 38, 39, 40, 41, 42, 43, 44, 45, 46, 47, 48] (by decide +kernel) (by decide +kernel)
set_option maxRecDepth 20000 in
theorem gX6_tracks_X6_isHouse : GoodIn wsX6_tracks (wsV RX6 146 RX6 yX6_isHouse wsX6_isHouse) := goodIn_app (goodIn_of _ (by decide +kernel)) ggX6_tracks_X6_isHouse
set_option maxRecDepth 20000 in
theorem ggX6_tracks_X6_strikes : GoodIn wsX6_tracks wsX6_strikes := goodIn_r _ [18, 9, 14, 19, 20, 21, 22, 23, 3, 24, 25, 26, 27, 28, 1, 2, 4, 29, 30, 31, 32, 33, 34, 35, 36, 37, 38, 39, 40, 41, 42, 43, 44, 45, 46, 47, 48] (by decide +kernel) (by decide +kernel)
set_option maxRecDepth 20000 in
theorem gX6_tracks_X6_strikes : GoodIn wsX6_tracks (wsV RX6 166 RX6 yX6_strikes wsX6_strikes) := goodIn_app (goodIn_of _ (by decide +kernel)) ggX6_tracks_X6_strikes
theorem dX6_tracks_0 : decode cX6_tracks 0 = .ok (.iload_n 1, 1) := by decide +kernel
theorem dX6_tracks_1 : decode cX6_tracks 1 = .ok (.i2l, 1) := by decide +kernel
theorem dX6_tracks_2 : decode cX6_tracks 2 = .ok (.lconst 0, 1) := by decide +kernel
theorem dX6_tracks_3 : decode cX6_tracks 3 = .ok (.lconst 1, 1) := by decide +kernel
theorem dX6_tracks_4 : decode cX6_tracks 4 = .ok (.invokestatic 42, 3) := by decide +kernel
theorem dX6_tracks_7 : decode cX6_tracks 7 = .ok (.ifCond .eq 26, 3) := by decide +kernel
theorem dX6_tracks_10 : decode cX6_tracks 10 = .ok (.iload_n 1, 1) := by decide +kernel
theorem dX6_tracks_11 : decode cX6_tracks 11 = .ok (.ifCond .ne 14, 3) := by decide +kernel
theorem dX6_tracks_14 : decode cX6_tracks 14 = .ok (.aload_n 0, 1) := by decide +kernel
theorem dX6_tracks_15 : decode cX6_tracks 15 = .ok (.iload_n 2, 1) := by decide +kernel
theorem dX6_tracks_16 : decode cX6_tracks 16 = .ok (.invokevirtual 141, 3) := by decide +kernel
theorem dX6_tracks_19 : decode cX6_tracks 19 = .ok (.ifCond .ne 16, 3) := by decide +kernel
theorem dX6_tracks_22 : decode cX6_tracks 22 = .ok (.goto 11, 3) := by decide +kernel
theorem dX6_tracks_25 : decode cX6_tracks 25 = .ok (.aload_n 0, 1) := by decide +kernel
theorem dX6_tracks_26 : decode cX6_tracks 26 = .ok (.iload_n 2, 1) := by decide +kernel
theorem dX6_tracks_27 : decode cX6_tracks 27 = .ok (.invokevirtual 146, 3) := by decide +kernel
theorem dX6_tracks_30 : decode cX6_tracks 30 = .ok (.ifCond .ne 5, 3) := by decide +kernel
theorem dX6_tracks_33 : decode cX6_tracks 33 = .ok (.iconst (-1), 1) := by decide +kernel
theorem dX6_tracks_34 : decode cX6_tracks 34 = .ok (.ireturn, 1) := by decide +kernel
theorem dX6_tracks_35 : decode cX6_tracks 35 = .ok (.iconst 0, 1) := by decide +kernel
theorem dX6_tracks_36 : decode cX6_tracks 36 = .ok (.istore_n 3, 1) := by decide +kernel
theorem dX6_tracks_37 : decode cX6_tracks 37 = .ok (.iconst 0, 1) := by decide +kernel
theorem dX6_tracks_38 : decode cX6_tracks 38 = .ok (.istore 4, 2) := by decide +kernel
theorem dX6_tracks_40 : decode cX6_tracks 40 = .ok (.iload 4, 2) := by decide +kernel
theorem dX6_tracks_42 : decode cX6_tracks 42 = .ok (.bipush 10, 2) := by decide +kernel
theorem dX6_tracks_44 : decode cX6_tracks 44 = .ok (.if_icmp .ge 35, 3) := by decide +kernel
theorem dX6_tracks_47 : decode cX6_tracks 47 = .ok (.iload_n 3, 1) := by decide +kernel
theorem dX6_tracks_48 : decode cX6_tracks 48 = .ok (.aload_n 0, 1) := by decide +kernel
theorem dX6_tracks_49 : decode cX6_tracks 49 = .ok (.iload 4, 2) := by decide +kernel
theorem dX6_tracks_51 : decode cX6_tracks 51 = .ok (.invokevirtual 166, 3) := by decide +kernel
theorem dX6_tracks_54 : decode cX6_tracks 54 = .ok (.iload_n 2, 1) := by decide +kernel
theorem dX6_tracks_55 : decode cX6_tracks 55 = .ok (.bipush 100, 2) := by decide +kernel
theorem dX6_tracks_57 : decode cX6_tracks 57 = .ok (.iload_n 1, 1) := by decide +kernel
theorem dX6_tracks_58 : decode cX6_tracks 58 = .ok (.imul, 1) := by decide +kernel
theorem dX6_tracks_59 : decode cX6_tracks 59 = .ok (.iadd, 1) := by decide +kernel
theorem dX6_tracks_60 : decode cX6_tracks 60 = .ok (.if_icmp .ne 10, 3) := by decide +kernel
theorem dX6_tracks_63 : decode cX6_tracks 63 = .ok (.iconst 1, 1) := by decide +kernel
theorem dX6_tracks_64 : decode cX6_tracks 64 = .ok (.iload 4, 2) := by decide +kernel
theorem dX6_tracks_66 : decode cX6_tracks 66 = .ok (.ishl, 1) := by decide +kernel
theorem dX6_tracks_67 : decode cX6_tracks 67 = .ok (.goto 4, 3) := by decide +kernel
theorem dX6_tracks_70 : decode cX6_tracks 70 = .ok (.iconst 0, 1) := by decide +kernel
theorem dX6_tracks_71 : decode cX6_tracks 71 = .ok (.ior, 1) := by decide +kernel
theorem dX6_tracks_72 : decode cX6_tracks 72 = .ok (.istore_n 3, 1) := by decide +kernel
theorem dX6_tracks_73 : decode cX6_tracks 73 = .ok (.iinc 4 1, 3) := by decide +kernel
theorem dX6_tracks_76 : decode cX6_tracks 76 = .ok (.goto (-36), 3) := by decide +kernel
theorem dX6_tracks_79 : decode cX6_tracks 79 = .ok (.iload_n 3, 1) := by decide +kernel
theorem dX6_tracks_80 : decode cX6_tracks 80 = .ok (.ireturn, 1) := by decide +kernel
set_option maxRecDepth 20000 in
theorem ggX6_odds_X6_isHouse : GoodIn wsX6_odds wsX6_isHouse := goodIn_r _ [6, 7, 8, 9, 5, 10, 43, 44, 45, 46, 47, 48, 49, 50, 51, 52, 53, 54, 55, 56, 57, 58] (by decide +kernel) (by decide +kernel)
set_option maxRecDepth 20000 in
theorem gX6_odds_X6_isHouse : GoodIn wsX6_odds (wsV RX6 146 RX6 yX6_isHouse wsX6_isHouse) := goodIn_app (goodIn_of _ (by decide +kernel)) ggX6_odds_X6_isHouse
set_option maxRecDepth 20000 in
theorem ggX6_odds_X6_in : GoodIn wsX6_odds wsX6_in := goodIn_r _ [10] (by decide +kernel) (by decide +kernel)
set_option maxRecDepth 20000 in
theorem gX6_odds_X6_in : GoodIn wsX6_odds (va_wsS RX6 42 yX6_in wsX6_in) := goodIn_app (goodIn_of _ (by decide +kernel)) ggX6_odds_X6_in
set_option maxRecDepth 20000 in
theorem ggX6_odds_X6_asides : GoodIn wsX6_odds wsX6_asides := goodIn_r _ [14, 15, 16, 43, 44, 45, 46, 47, 48, 49, 50, 51, 52, 53, 54, 55, 56, 57, 58] (by decide +kernel) (by decide +kernel)
set_option maxRecDepth 20000 in
theorem gX6_odds_X6_asides : GoodIn wsX6_odds (wsV RX6 179 RX6 yX6_asides wsX6_asides) := goodIn_app (goodIn_of _ (by decide +kernel)) ggX6_odds_X6_asides
set_option maxRecDepth 20000 in
theorem ggX6_odds_X6_storms : GoodIn wsX6_odds wsX6_storms := goodIn_r _ [20, 16, 7, 21, 22, 23, 5, 24, 25, 26, 27, 28, 29, 30, 31, 32, 33, 34, 8, 9, 10, 35, 36, 37, 38, 43, 44, 45, 46, 47, 48, 49, 50, 51, 52, 53, 54, 55, 56, 57, 58] (by decide +kernel) (by decide +kernel)
set_option maxRecDepth 20000 in
theorem gX6_odds_X6_storms : GoodIn wsX6_odds (wsV RX6 171 RX6 yX6_storms wsX6_storms) := goodIn_app (goodIn_of _ (by decide +kernel)) ggX6_odds_X6_storms
set_option maxRecDepth 20000 in
theorem ggX6_odds_X6_backs : GoodIn wsX6_odds wsX6_backs := goodIn_r _ [42, 16, 15, 43, 44, 45, 46, 47, 48, 49, 50, 51, 52, 53, 54, 55, 56, 57, 58] (by decide +kernel) (by decide +kernel)
set_option maxRecDepth 20000 in
theorem gX6_odds_X6_backs : GoodIn wsX6_odds (wsV RX6 182 RX6 yX6_backs wsX6_backs) := goodIn_app (goodIn_of _ (by decide +kernel)) ggX6_odds_X6_backs
theorem dX6_odds_0 : decode cX6_odds 0 = .ok (.aload_n 0, 1) := by decide +kernel
theorem dX6_odds_1 : decode cX6_odds 1 = .ok (.iload_n 1, 1) := by decide +kernel
theorem dX6_odds_2 : decode cX6_odds 2 = .ok (.invokevirtual 146, 3) := by decide +kernel
theorem dX6_odds_5 : decode cX6_odds 5 = .ok (.ifCond .eq 25, 3) := by decide +kernel
theorem dX6_odds_8 : decode cX6_odds 8 = .ok (.iload_n 2, 1) := by decide +kernel
theorem dX6_odds_9 : decode cX6_odds 9 = .ok (.i2l, 1) := by decide +kernel
theorem dX6_odds_10 : decode cX6_odds 10 = .ok (.lconst 0, 1) := by decide +kernel
theorem dX6_odds_11 : decode cX6_odds 11 = .ok (.ldc2_w 194, 3) := by decide +kernel
theorem dX6_odds_14 : decode cX6_odds 14 = .ok (.invokestatic 42, 3) := by decide +kernel
theorem dX6_odds_17 : decode cX6_odds 17 = .ok (.ifCond .eq 13, 3) := by decide +kernel
theorem dX6_odds_20 : decode cX6_odds 20 = .ok (.iload_n 3, 1) := by decide +kernel
theorem dX6_odds_21 : decode cX6_odds 21 = .ok (.i2l, 1) := by decide +kernel
theorem dX6_odds_22 : decode cX6_odds 22 = .ok (.lconst 0, 1) := by decide +kernel
theorem dX6_odds_23 : decode cX6_odds 23 = .ok (.lconst 1, 1) := by decide +kernel
theorem dX6_odds_24 : decode cX6_odds 24 = .ok (.invokestatic 42, 3) := by decide +kernel
theorem dX6_odds_27 : decode cX6_odds 27 = .ok (.ifCond .ne 5, 3) := by decide +kernel
theorem dX6_odds_30 : decode cX6_odds 30 = .ok (.iconst (-1), 1) := by decide +kernel
theorem dX6_odds_31 : decode cX6_odds 31 = .ok (.ireturn, 1) := by decide +kernel
theorem dX6_odds_32 : decode cX6_odds 32 = .ok (.aload_n 0, 1) := by decide +kernel
theorem dX6_odds_33 : decode cX6_odds 33 = .ok (.invokevirtual 179, 3) := by decide +kernel
theorem dX6_odds_36 : decode cX6_odds 36 = .ok (.iconst 1, 1) := by decide +kernel
theorem dX6_odds_37 : decode cX6_odds 37 = .ok (.istore 4, 2) := by decide +kernel
theorem dX6_odds_39 : decode cX6_odds 39 = .ok (.iconst 0, 1) := by decide +kernel
theorem dX6_odds_40 : decode cX6_odds 40 = .ok (.istore 5, 2) := by decide +kernel
theorem dX6_odds_42 : decode cX6_odds 42 = .ok (.iload 5, 2) := by decide +kernel
theorem dX6_odds_44 : decode cX6_odds 44 = .ok (.iload_n 2, 1) := by decide +kernel
theorem dX6_odds_45 : decode cX6_odds 45 = .ok (.if_icmp .ge 16, 3) := by decide +kernel
theorem dX6_odds_48 : decode cX6_odds 48 = .ok (.iload 4, 2) := by decide +kernel
theorem dX6_odds_50 : decode cX6_odds 50 = .ok (.bipush 10, 2) := by decide +kernel
theorem dX6_odds_52 : decode cX6_odds 52 = .ok (.imul, 1) := by decide +kernel
theorem dX6_odds_53 : decode cX6_odds 53 = .ok (.istore 4, 2) := by decide +kernel
theorem dX6_odds_55 : decode cX6_odds 55 = .ok (.iinc 5 1, 3) := by decide +kernel
theorem dX6_odds_58 : decode cX6_odds 58 = .ok (.goto (-16), 3) := by decide +kernel
theorem dX6_odds_61 : decode cX6_odds 61 = .ok (.iconst 0, 1) := by decide +kernel
theorem dX6_odds_62 : decode cX6_odds 62 = .ok (.istore 5, 2) := by decide +kernel
theorem dX6_odds_64 : decode cX6_odds 64 = .ok (.iconst 0, 1) := by decide +kernel
theorem dX6_odds_65 : decode cX6_odds 65 = .ok (.istore 6, 2) := by decide +kernel
theorem dX6_odds_67 : decode cX6_odds 67 = .ok (.iload 6, 2) := by decide +kernel
theorem dX6_odds_69 : decode cX6_odds 69 = .ok (.iload 4, 2) := by decide +kernel
theorem dX6_odds_71 : decode cX6_odds 71 = .ok (.if_icmp .ge 85, 3) := by decide +kernel
theorem dX6_odds_74 : decode cX6_odds 74 = .ok (.iload 6, 2) := by decide +kernel
theorem dX6_odds_76 : decode cX6_odds 76 = .ok (.istore 7, 2) := by decide +kernel
theorem dX6_odds_78 : decode cX6_odds 78 = .ok (.iconst 0, 1) := by decide +kernel
theorem dX6_odds_79 : decode cX6_odds 79 = .ok (.istore 8, 2) := by decide +kernel
theorem dX6_odds_81 : decode cX6_odds 81 = .ok (.iconst 0, 1) := by decide +kernel
theorem dX6_odds_82 : decode cX6_odds 82 = .ok (.istore 9, 2) := by decide +kernel
theorem dX6_odds_84 : decode cX6_odds 84 = .ok (.iload 9, 2) := by decide +kernel
theorem dX6_odds_86 : decode cX6_odds 86 = .ok (.iload_n 2, 1) := by decide +kernel
theorem dX6_odds_87 : decode cX6_odds 87 = .ok (.if_icmp .ge 44, 3) := by decide +kernel
theorem dX6_odds_90 : decode cX6_odds 90 = .ok (.aload_n 0, 1) := by decide +kernel
theorem dX6_odds_91 : decode cX6_odds 91 = .ok (.iload 7, 2) := by decide +kernel
theorem dX6_odds_93 : decode cX6_odds 93 = .ok (.bipush 10, 2) := by decide +kernel
theorem dX6_odds_95 : decode cX6_odds 95 = .ok (.irem, 1) := by decide +kernel
theorem dX6_odds_96 : decode cX6_odds 96 = .ok (.invokevirtual 171, 3) := by decide +kernel
theorem dX6_odds_99 : decode cX6_odds 99 = .ok (.bipush 100, 2) := by decide +kernel
theorem dX6_odds_101 : decode cX6_odds 101 = .ok (.iload_n 1, 1) := by decide +kernel
theorem dX6_odds_102 : decode cX6_odds 102 = .ok (.iadd, 1) := by decide +kernel
theorem dX6_odds_103 : decode cX6_odds 103 = .ok (.if_icmp .eq 8, 3) := by decide +kernel
theorem dX6_odds_106 : decode cX6_odds 106 = .ok (.iload 8, 2) := by decide +kernel
theorem dX6_odds_108 : decode cX6_odds 108 = .ok (.ifCond .eq 7, 3) := by decide +kernel
theorem dX6_odds_111 : decode cX6_odds 111 = .ok (.iconst 1, 1) := by decide +kernel
theorem dX6_odds_112 : decode cX6_odds 112 = .ok (.goto 4, 3) := by decide +kernel
theorem dX6_odds_115 : decode cX6_odds 115 = .ok (.iconst 0, 1) := by decide +kernel
theorem dX6_odds_116 : decode cX6_odds 116 = .ok (.istore 8, 2) := by decide +kernel
theorem dX6_odds_118 : decode cX6_odds 118 = .ok (.iload 7, 2) := by decide +kernel
theorem dX6_odds_120 : decode cX6_odds 120 = .ok (.bipush 10, 2) := by decide +kernel
theorem dX6_odds_122 : decode cX6_odds 122 = .ok (.idiv, 1) := by decide +kernel
theorem dX6_odds_123 : decode cX6_odds 123 = .ok (.istore 7, 2) := by decide +kernel
theorem dX6_odds_125 : decode cX6_odds 125 = .ok (.iinc 9 1, 3) := by decide +kernel
theorem dX6_odds_128 : decode cX6_odds 128 = .ok (.goto (-44), 3) := by decide +kernel
theorem dX6_odds_131 : decode cX6_odds 131 = .ok (.iload 5, 2) := by decide +kernel
theorem dX6_odds_133 : decode cX6_odds 133 = .ok (.iload 8, 2) := by decide +kernel
theorem dX6_odds_135 : decode cX6_odds 135 = .ok (.ifCond .eq 7, 3) := by decide +kernel
theorem dX6_odds_138 : decode cX6_odds 138 = .ok (.iconst 1, 1) := by decide +kernel
theorem dX6_odds_139 : decode cX6_odds 139 = .ok (.goto 4, 3) := by decide +kernel
theorem dX6_odds_142 : decode cX6_odds 142 = .ok (.iconst 0, 1) := by decide +kernel
theorem dX6_odds_143 : decode cX6_odds 143 = .ok (.iadd, 1) := by decide +kernel
theorem dX6_odds_144 : decode cX6_odds 144 = .ok (.istore 5, 2) := by decide +kernel
theorem dX6_odds_146 : decode cX6_odds 146 = .ok (.aload_n 0, 1) := by decide +kernel
theorem dX6_odds_147 : decode cX6_odds 147 = .ok (.invokevirtual 182, 3) := by decide +kernel
theorem dX6_odds_150 : decode cX6_odds 150 = .ok (.iinc 6 1, 3) := by decide +kernel
theorem dX6_odds_153 : decode cX6_odds 153 = .ok (.goto (-86), 3) := by decide +kernel
theorem dX6_odds_156 : decode cX6_odds 156 = .ok (.iload 5, 2) := by decide +kernel
theorem dX6_odds_158 : decode cX6_odds 158 = .ok (.istore 6, 2) := by decide +kernel
theorem dX6_odds_160 : decode cX6_odds 160 = .ok (.iload 4, 2) := by decide +kernel
theorem dX6_odds_162 : decode cX6_odds 162 = .ok (.istore 7, 2) := by decide +kernel
theorem dX6_odds_164 : decode cX6_odds 164 = .ok (.iload 7, 2) := by decide +kernel
theorem dX6_odds_166 : decode cX6_odds 166 = .ok (.ifCond .eq 21, 3) := by decide +kernel
theorem dX6_odds_169 : decode cX6_odds 169 = .ok (.iload 6, 2) := by decide +kernel
theorem dX6_odds_171 : decode cX6_odds 171 = .ok (.iload 7, 2) := by decide +kernel
theorem dX6_odds_173 : decode cX6_odds 173 = .ok (.irem, 1) := by decide +kernel
theorem dX6_odds_174 : decode cX6_odds 174 = .ok (.istore 8, 2) := by decide +kernel
theorem dX6_odds_176 : decode cX6_odds 176 = .ok (.iload 7, 2) := by decide +kernel
theorem dX6_odds_178 : decode cX6_odds 178 = .ok (.istore 6, 2) := by decide +kernel
theorem dX6_odds_180 : decode cX6_odds 180 = .ok (.iload 8, 2) := by decide +kernel
theorem dX6_odds_182 : decode cX6_odds 182 = .ok (.istore 7, 2) := by decide +kernel
theorem dX6_odds_184 : decode cX6_odds 184 = .ok (.goto (-20), 3) := by decide +kernel
theorem dX6_odds_187 : decode cX6_odds 187 = .ok (.iload_n 3, 1) := by decide +kernel
theorem dX6_odds_188 : decode cX6_odds 188 = .ok (.ifCond .ne 11, 3) := by decide +kernel
theorem dX6_odds_191 : decode cX6_odds 191 = .ok (.iload 5, 2) := by decide +kernel
theorem dX6_odds_193 : decode cX6_odds 193 = .ok (.iload 6, 2) := by decide +kernel
theorem dX6_odds_195 : decode cX6_odds 195 = .ok (.idiv, 1) := by decide +kernel
theorem dX6_odds_196 : decode cX6_odds 196 = .ok (.goto 8, 3) := by decide +kernel
theorem dX6_odds_199 : decode cX6_odds 199 = .ok (.iload 4, 2) := by decide +kernel
theorem dX6_odds_201 : decode cX6_odds 201 = .ok (.iload 6, 2) := by decide +kernel
theorem dX6_odds_203 : decode cX6_odds 203 = .ok (.idiv, 1) := by decide +kernel
theorem dX6_odds_204 : decode cX6_odds 204 = .ok (.ireturn, 1) := by decide +kernel
set_option maxRecDepth 20000 in
theorem ggX6_war_X6_isTree : GoodIn wsX6_war wsX6_isTree := goodIn_r _ [7, 2, 8, 9, 6, 10, 24, 25, 26, 27, 28, 29, 30, 31, 32, 33, 34, 35, 36, 37, 38, 39] (by decide +kernel) (by decide +kernel)
set_option maxRecDepth 20000 in
theorem gX6_war_X6_isTree : GoodIn wsX6_war (wsV RX6 141 RX6 yX6_isTree wsX6_isTree) := goodIn_app (goodIn_of _ (by decide +kernel)) ggX6_war_X6_isTree
set_option maxRecDepth 20000 in
theorem ggX6_war_X6_isHouse : GoodIn wsX6_war wsX6_isHouse := goodIn_r _ [14, 15, 8, 9, 6, 10, 24, 25, 26, 27, 28, 29, 30, 31, 32, 33, 34, 35, 36, 37, 38, 39] (by decide +kernel) (by decide +kernel)
set_option maxRecDepth 20000 in
theorem gX6_war_X6_isHouse : GoodIn wsX6_war (wsV RX6 146 RX6 yX6_isHouse wsX6_isHouse) := goodIn_app (goodIn_of _ (by decide +kernel)) ggX6_war_X6_isHouse
set_option maxRecDepth 20000 in
theorem ggX6_war_X6_in : GoodIn wsX6_war wsX6_in := goodIn_r _ [10] (by decide +kernel) (by decide +kernel)
set_option maxRecDepth 20000 in
theorem gX6_war_X6_in : GoodIn wsX6_war (va_wsS RX6 42 yX6_in wsX6_in) := goodIn_app (goodIn_of _ (by decide +kernel)) ggX6_war_X6_in
set_option maxRecDepth 20000 in
theorem ggX6_war_X6_high : GoodIn wsX6_war wsX6_high := goodIn_r _ [19, 2, 24, 25, 26, 27, 28, 29, 30, 31, 32, 33, 34, 35, 36, 37, 38, 39] (by decide +kernel) (by decide +kernel)
set_option maxRecDepth 20000 in
theorem gX6_war_X6_high : GoodIn wsX6_war (wsV RX6 122 RX6 yX6_high wsX6_high) := goodIn_app (goodIn_of _ (by decide +kernel)) ggX6_war_X6_high
set_option maxRecDepth 20000 in
theorem ggX6_war_X6_tall : GoodIn wsX6_war wsX6_tall := goodIn_r _ [23, 15, 24, 25, 26, 27, 28, 29, 30, 31, 32, 33, 34, 35, 36, 37, 38, 39] (by decide +kernel) (by decide +kernel)
set_option maxRecDepth 20000 in
theorem gX6_war_X6_tall : GoodIn wsX6_war (wsV RX6 126 RX6 yX6_tall wsX6_tall) := goodIn_app (goodIn_of _ (by decide +kernel)) ggX6_war_X6_tall
theorem dX6_war_0 : decode cX6_war 0 = .ok (.aload_n 0, 1) := by decide +kernel
theorem dX6_war_1 : decode cX6_war 1 = .ok (.iload_n 1, 1) := by decide +kernel
theorem dX6_war_2 : decode cX6_war 2 = .ok (.invokevirtual 141, 3) := by decide +kernel
theorem dX6_war_5 : decode cX6_war 5 = .ok (.ifCond .eq 23, 3) := by decide +kernel
theorem dX6_war_8 : decode cX6_war 8 = .ok (.aload_n 0, 1) := by decide +kernel
theorem dX6_war_9 : decode cX6_war 9 = .ok (.iload_n 2, 1) := by decide +kernel
theorem dX6_war_10 : decode cX6_war 10 = .ok (.invokevirtual 146, 3) := by decide +kernel
theorem dX6_war_13 : decode cX6_war 13 = .ok (.ifCond .eq 15, 3) := by decide +kernel
theorem dX6_war_16 : decode cX6_war 16 = .ok (.iload_n 3, 1) := by decide +kernel
theorem dX6_war_17 : decode cX6_war 17 = .ok (.i2l, 1) := by decide +kernel
theorem dX6_war_18 : decode cX6_war 18 = .ok (.lconst 0, 1) := by decide +kernel
theorem dX6_war_19 : decode cX6_war 19 = .ok (.ldc2_w 196, 3) := by decide +kernel
theorem dX6_war_22 : decode cX6_war 22 = .ok (.invokestatic 42, 3) := by decide +kernel
theorem dX6_war_25 : decode cX6_war 25 = .ok (.ifCond .ne 5, 3) := by decide +kernel
theorem dX6_war_28 : decode cX6_war 28 = .ok (.iconst (-1), 1) := by decide +kernel
theorem dX6_war_29 : decode cX6_war 29 = .ok (.ireturn, 1) := by decide +kernel
theorem dX6_war_30 : decode cX6_war 30 = .ok (.aload_n 0, 1) := by decide +kernel
theorem dX6_war_31 : decode cX6_war 31 = .ok (.iload_n 1, 1) := by decide +kernel
theorem dX6_war_32 : decode cX6_war 32 = .ok (.invokevirtual 122, 3) := by decide +kernel
theorem dX6_war_35 : decode cX6_war 35 = .ok (.istore 4, 2) := by decide +kernel
theorem dX6_war_37 : decode cX6_war 37 = .ok (.aload_n 0, 1) := by decide +kernel
theorem dX6_war_38 : decode cX6_war 38 = .ok (.iload_n 2, 1) := by decide +kernel
theorem dX6_war_39 : decode cX6_war 39 = .ok (.invokevirtual 126, 3) := by decide +kernel
theorem dX6_war_42 : decode cX6_war 42 = .ok (.istore 5, 2) := by decide +kernel
theorem dX6_war_44 : decode cX6_war 44 = .ok (.iload_n 3, 1) := by decide +kernel
theorem dX6_war_45 : decode cX6_war 45 = .ok (.istore 6, 2) := by decide +kernel
theorem dX6_war_47 : decode cX6_war 47 = .ok (.iconst 0, 1) := by decide +kernel
theorem dX6_war_48 : decode cX6_war 48 = .ok (.istore 7, 2) := by decide +kernel
theorem dX6_war_50 : decode cX6_war 50 = .ok (.iload 7, 2) := by decide +kernel
theorem dX6_war_52 : decode cX6_war 52 = .ok (.bipush 100, 2) := by decide +kernel
theorem dX6_war_54 : decode cX6_war 54 = .ok (.if_icmp .ge 75, 3) := by decide +kernel
theorem dX6_war_57 : decode cX6_war 57 = .ok (.iload 5, 2) := by decide +kernel
theorem dX6_war_59 : decode cX6_war 59 = .ok (.iload 4, 2) := by decide +kernel
theorem dX6_war_61 : decode cX6_war 61 = .ok (.if_icmp .gt 21, 3) := by decide +kernel
theorem dX6_war_64 : decode cX6_war 64 = .ok (.iload 6, 2) := by decide +kernel
theorem dX6_war_66 : decode cX6_war 66 = .ok (.iload 4, 2) := by decide +kernel
theorem dX6_war_68 : decode cX6_war 68 = .ok (.iconst 1, 1) := by decide +kernel
theorem dX6_war_69 : decode cX6_war 69 = .ok (.iadd, 1) := by decide +kernel
theorem dX6_war_70 : decode cX6_war 70 = .ok (.iload 5, 2) := by decide +kernel
theorem dX6_war_72 : decode cX6_war 72 = .ok (.isub, 1) := by decide +kernel
theorem dX6_war_73 : decode cX6_war 73 = .ok (.isub, 1) := by decide +kernel
theorem dX6_war_74 : decode cX6_war 74 = .ok (.istore 6, 2) := by decide +kernel
theorem dX6_war_76 : decode cX6_war 76 = .ok (.iload 4, 2) := by decide +kernel
theorem dX6_war_78 : decode cX6_war 78 = .ok (.iconst 1, 1) := by decide +kernel
theorem dX6_war_79 : decode cX6_war 79 = .ok (.iadd, 1) := by decide +kernel
theorem dX6_war_80 : decode cX6_war 80 = .ok (.istore 5, 2) := by decide +kernel
theorem dX6_war_82 : decode cX6_war 82 = .ok (.iload 6, 2) := by decide +kernel
theorem dX6_war_84 : decode cX6_war 84 = .ok (.ifCond .ge 6, 3) := by decide +kernel
theorem dX6_war_87 : decode cX6_war 87 = .ok (.iload 7, 2) := by decide +kernel
theorem dX6_war_89 : decode cX6_war 89 = .ok (.ireturn, 1) := by decide +kernel
theorem dX6_war_90 : decode cX6_war 90 = .ok (.iload 4, 2) := by decide +kernel
theorem dX6_war_92 : decode cX6_war 92 = .ok (.aload_n 0, 1) := by decide +kernel
theorem dX6_war_93 : decode cX6_war 93 = .ok (.getfield 19, 3) := by decide +kernel
theorem dX6_war_96 : decode cX6_war 96 = .ok (.iconst 2, 1) := by decide +kernel
theorem dX6_war_97 : decode cX6_war 97 = .ok (.iconst 5, 1) := by decide +kernel
theorem dX6_war_98 : decode cX6_war 98 = .ok (.iload_n 1, 1) := by decide +kernel
theorem dX6_war_99 : decode cX6_war 99 = .ok (.imul, 1) := by decide +kernel
theorem dX6_war_100 : decode cX6_war 100 = .ok (.iadd, 1) := by decide +kernel
theorem dX6_war_101 : decode cX6_war 101 = .ok (.iconst 3, 1) := by decide +kernel
theorem dX6_war_102 : decode cX6_war 102 = .ok (.iadd, 1) := by decide +kernel
theorem dX6_war_103 : decode cX6_war 103 = .ok (.iaload, 1) := by decide +kernel
theorem dX6_war_104 : decode cX6_war 104 = .ok (.iadd, 1) := by decide +kernel
theorem dX6_war_105 : decode cX6_war 105 = .ok (.istore 4, 2) := by decide +kernel
theorem dX6_war_107 : decode cX6_war 107 = .ok (.iload 4, 2) := by decide +kernel
theorem dX6_war_109 : decode cX6_war 109 = .ok (.bipush 99, 2) := by decide +kernel
theorem dX6_war_111 : decode cX6_war 111 = .ok (.if_icmp .le 8, 3) := by decide +kernel
theorem dX6_war_114 : decode cX6_war 114 = .ok (.bipush 99, 2) := by decide +kernel
theorem dX6_war_116 : decode cX6_war 116 = .ok (.goto 5, 3) := by decide +kernel
theorem dX6_war_119 : decode cX6_war 119 = .ok (.iload 4, 2) := by decide +kernel
theorem dX6_war_121 : decode cX6_war 121 = .ok (.istore 4, 2) := by decide +kernel
theorem dX6_war_123 : decode cX6_war 123 = .ok (.iinc 7 1, 3) := by decide +kernel
theorem dX6_war_126 : decode cX6_war 126 = .ok (.goto (-76), 3) := by decide +kernel
theorem dX6_war_129 : decode cX6_war 129 = .ok (.bipush (-9), 2) := by decide +kernel
theorem dX6_war_131 : decode cX6_war 131 = .ok (.ireturn, 1) := by decide +kernel
set_option maxRecDepth 20000 in
theorem ggX6_saw_X6_in : GoodIn wsX6_saw wsX6_in := goodIn_r _ [6] (by decide +kernel) (by decide +kernel)
set_option maxRecDepth 20000 in
theorem gX6_saw_X6_in : GoodIn wsX6_saw (va_wsS RX6 42 yX6_in wsX6_in) := goodIn_app (goodIn_of _ (by decide +kernel)) ggX6_saw_X6_in
theorem dX6_saw_0 : decode cX6_saw 0 = .ok (.iload_n 1, 1) := by decide +kernel
theorem dX6_saw_1 : decode cX6_saw 1 = .ok (.i2l, 1) := by decide +kernel
theorem dX6_saw_2 : decode cX6_saw 2 = .ok (.lconst 0, 1) := by decide +kernel
theorem dX6_saw_3 : decode cX6_saw 3 = .ok (.iconst 1, 1) := by decide +kernel
theorem dX6_saw_4 : decode cX6_saw 4 = .ok (.aload_n 0, 1) := by decide +kernel
theorem dX6_saw_5 : decode cX6_saw 5 = .ok (.getfield 16, 3) := by decide +kernel
theorem dX6_saw_8 : decode cX6_saw 8 = .ok (.iconst 1, 1) := by decide +kernel
theorem dX6_saw_9 : decode cX6_saw 9 = .ok (.iaload, 1) := by decide +kernel
theorem dX6_saw_10 : decode cX6_saw 10 = .ok (.ishl, 1) := by decide +kernel
theorem dX6_saw_11 : decode cX6_saw 11 = .ok (.iconst 1, 1) := by decide +kernel
theorem dX6_saw_12 : decode cX6_saw 12 = .ok (.isub, 1) := by decide +kernel
theorem dX6_saw_13 : decode cX6_saw 13 = .ok (.i2l, 1) := by decide +kernel
theorem dX6_saw_14 : decode cX6_saw 14 = .ok (.invokestatic 42, 3) := by decide +kernel
theorem dX6_saw_17 : decode cX6_saw 17 = .ok (.ifCond .ne 5, 3) := by decide +kernel
theorem dX6_saw_20 : decode cX6_saw 20 = .ok (.iconst (-1), 1) := by decide +kernel
theorem dX6_saw_21 : decode cX6_saw 21 = .ok (.ireturn, 1) := by decide +kernel
theorem dX6_saw_22 : decode cX6_saw 22 = .ok (.aload_n 0, 1) := by decide +kernel
theorem dX6_saw_23 : decode cX6_saw 23 = .ok (.getfield 107, 3) := by decide +kernel
theorem dX6_saw_26 : decode cX6_saw 26 = .ok (.istore_n 2, 1) := by decide +kernel
theorem dX6_saw_27 : decode cX6_saw 27 = .ok (.aload_n 0, 1) := by decide +kernel
theorem dX6_saw_28 : decode cX6_saw 28 = .ok (.iload_n 1, 1) := by decide +kernel
theorem dX6_saw_29 : decode cX6_saw 29 = .ok (.putfield 107, 3) := by decide +kernel
theorem dX6_saw_32 : decode cX6_saw 32 = .ok (.iload_n 2, 1) := by decide +kernel
theorem dX6_saw_33 : decode cX6_saw 33 = .ok (.ireturn, 1) := by decide +kernel
set_option maxRecDepth 20000 in
theorem ggX6_whose_X6_in : GoodIn wsX6_whose wsX6_in := goodIn_r _ [7] (by decide +kernel) (by decide +kernel)
set_option maxRecDepth 20000 in
theorem gX6_whose_X6_in : GoodIn wsX6_whose (va_wsS RX6 42 yX6_in wsX6_in) := goodIn_app (goodIn_of _ (by decide +kernel)) ggX6_whose_X6_in
set_option maxRecDepth 20000 in
theorem ggX6_whose_X6_high : GoodIn wsX6_whose wsX6_high := goodIn_r _ [11, 2, 41, 42, 43, 44, 45, 46, 47, 48, 49, 50, 51, 52, 53, 54, 55, 56] (by decide +kernel) (by decide +kernel)
set_option maxRecDepth 20000 in
theorem gX6_whose_X6_high : GoodIn wsX6_whose (wsV RX6 122 RX6 yX6_high wsX6_high) := goodIn_app (goodIn_of _ (by decide +kernel)) ggX6_whose_X6_high
set_option maxRecDepth 20000 in
theorem ggX6_whose_X6_covered : GoodIn wsX6_whose wsX6_covered := goodIn_r _ [15, 2, 16, 17, 18, 6, 19, 20, 21, 22, 23, 24, 25, 26, 27, 28, 29, 30, 31, 32, 33, 34, 35, 36, 8, 9, 10, 11, 37, 38, 39, 40, 41, 42, 43, 44, 45, 46, 47, 48, 49, 50, 51, 52, 53, 54, 55, 56] (by decide +kernel) (by decide +kernel)
set_option maxRecDepth 20000 in
theorem gX6_whose_X6_covered : GoodIn wsX6_whose (wsV RX6 158 RX6 yX6_covered wsX6_covered) := goodIn_app (goodIn_of _ (by decide +kernel)) ggX6_whose_X6_covered
theorem dX6_whose_0 : decode cX6_whose 0 = .ok (.iload_n 1, 1) := by decide +kernel
theorem dX6_whose_1 : decode cX6_whose 1 = .ok (.i2l, 1) := by decide +kernel
theorem dX6_whose_2 : decode cX6_whose 2 = .ok (.lconst 0, 1) := by decide +kernel
theorem dX6_whose_3 : decode cX6_whose 3 = .ok (.ldc2_w 164, 3) := by decide +kernel
theorem dX6_whose_6 : decode cX6_whose 6 = .ok (.invokestatic 42, 3) := by decide +kernel
theorem dX6_whose_9 : decode cX6_whose 9 = .ok (.ifCond .ne 5, 3) := by decide +kernel
theorem dX6_whose_12 : decode cX6_whose 12 = .ok (.iconst (-1), 1) := by decide +kernel
theorem dX6_whose_13 : decode cX6_whose 13 = .ok (.ireturn, 1) := by decide +kernel
theorem dX6_whose_14 : decode cX6_whose 14 = .ok (.iconst 0, 1) := by decide +kernel
theorem dX6_whose_15 : decode cX6_whose 15 = .ok (.istore_n 2, 1) := by decide +kernel
theorem dX6_whose_16 : decode cX6_whose 16 = .ok (.bipush (-9), 2) := by decide +kernel
theorem dX6_whose_18 : decode cX6_whose 18 = .ok (.istore_n 3, 1) := by decide +kernel
theorem dX6_whose_19 : decode cX6_whose 19 = .ok (.iconst 0, 1) := by decide +kernel
theorem dX6_whose_20 : decode cX6_whose 20 = .ok (.istore 4, 2) := by decide +kernel
theorem dX6_whose_22 : decode cX6_whose 22 = .ok (.iconst 0, 1) := by decide +kernel
theorem dX6_whose_23 : decode cX6_whose 23 = .ok (.istore 5, 2) := by decide +kernel
theorem dX6_whose_25 : decode cX6_whose 25 = .ok (.iload 5, 2) := by decide +kernel
theorem dX6_whose_27 : decode cX6_whose 27 = .ok (.aload_n 0, 1) := by decide +kernel
theorem dX6_whose_28 : decode cX6_whose 28 = .ok (.getfield 19, 3) := by decide +kernel
theorem dX6_whose_31 : decode cX6_whose 31 = .ok (.iconst 1, 1) := by decide +kernel
theorem dX6_whose_32 : decode cX6_whose 32 = .ok (.iaload, 1) := by decide +kernel
theorem dX6_whose_33 : decode cX6_whose 33 = .ok (.if_icmp .ge 159, 3) := by decide +kernel
theorem dX6_whose_36 : decode cX6_whose 36 = .ok (.aload_n 0, 1) := by decide +kernel
theorem dX6_whose_37 : decode cX6_whose 37 = .ok (.getfield 107, 3) := by decide +kernel
theorem dX6_whose_40 : decode cX6_whose 40 = .ok (.bipush (-9), 2) := by decide +kernel
theorem dX6_whose_42 : decode cX6_whose 42 = .ok (.if_icmp .eq 150, 3) := by decide +kernel
theorem dX6_whose_45 : decode cX6_whose 45 = .ok (.aload_n 0, 1) := by decide +kernel
theorem dX6_whose_46 : decode cX6_whose 46 = .ok (.iload 5, 2) := by decide +kernel
theorem dX6_whose_48 : decode cX6_whose 48 = .ok (.invokevirtual 122, 3) := by decide +kernel
theorem dX6_whose_51 : decode cX6_whose 51 = .ok (.istore 6, 2) := by decide +kernel
theorem dX6_whose_53 : decode cX6_whose 53 = .ok (.iconst 1, 1) := by decide +kernel
theorem dX6_whose_54 : decode cX6_whose 54 = .ok (.istore 7, 2) := by decide +kernel
theorem dX6_whose_56 : decode cX6_whose 56 = .ok (.iload 7, 2) := by decide +kernel
theorem dX6_whose_58 : decode cX6_whose 58 = .ok (.bipush 41, 2) := by decide +kernel
theorem dX6_whose_60 : decode cX6_whose 60 = .ok (.if_icmp .ge 111, 3) := by decide +kernel
theorem dX6_whose_63 : decode cX6_whose 63 = .ok (.aload_n 0, 1) := by decide +kernel
theorem dX6_whose_64 : decode cX6_whose 64 = .ok (.getfield 19, 3) := by decide +kernel
theorem dX6_whose_67 : decode cX6_whose 67 = .ok (.iconst 2, 1) := by decide +kernel
theorem dX6_whose_68 : decode cX6_whose 68 = .ok (.iconst 5, 1) := by decide +kernel
theorem dX6_whose_69 : decode cX6_whose 69 = .ok (.iload 5, 2) := by decide +kernel
theorem dX6_whose_71 : decode cX6_whose 71 = .ok (.imul, 1) := by decide +kernel
theorem dX6_whose_72 : decode cX6_whose 72 = .ok (.iadd, 1) := by decide +kernel
theorem dX6_whose_73 : decode cX6_whose 73 = .ok (.iconst 2, 1) := by decide +kernel
theorem dX6_whose_74 : decode cX6_whose 74 = .ok (.iadd, 1) := by decide +kernel
theorem dX6_whose_75 : decode cX6_whose 75 = .ok (.iload 6, 2) := by decide +kernel
theorem dX6_whose_77 : decode cX6_whose 77 = .ok (.iload 7, 2) := by decide +kernel
theorem dX6_whose_79 : decode cX6_whose 79 = .ok (.isub, 1) := by decide +kernel
theorem dX6_whose_80 : decode cX6_whose 80 = .ok (.iconst 1, 1) := by decide +kernel
theorem dX6_whose_81 : decode cX6_whose 81 = .ok (.if_icmp .ge 7, 3) := by decide +kernel
theorem dX6_whose_84 : decode cX6_whose 84 = .ok (.iconst 1, 1) := by decide +kernel
theorem dX6_whose_85 : decode cX6_whose 85 = .ok (.goto 8, 3) := by decide +kernel
theorem dX6_whose_88 : decode cX6_whose 88 = .ok (.iload 6, 2) := by decide +kernel
theorem dX6_whose_90 : decode cX6_whose 90 = .ok (.iload 7, 2) := by decide +kernel
theorem dX6_whose_92 : decode cX6_whose 92 = .ok (.isub, 1) := by decide +kernel
theorem dX6_whose_93 : decode cX6_whose 93 = .ok (.iastore, 1) := by decide +kernel
theorem dX6_whose_94 : decode cX6_whose 94 = .ok (.aload_n 0, 1) := by decide +kernel
theorem dX6_whose_95 : decode cX6_whose 95 = .ok (.invokevirtual 158, 3) := by decide +kernel
theorem dX6_whose_98 : decode cX6_whose 98 = .ok (.aload_n 0, 1) := by decide +kernel
theorem dX6_whose_99 : decode cX6_whose 99 = .ok (.getfield 107, 3) := by decide +kernel
theorem dX6_whose_102 : decode cX6_whose 102 = .ok (.if_icmp .ne 7, 3) := by decide +kernel
theorem dX6_whose_105 : decode cX6_whose 105 = .ok (.iconst 1, 1) := by decide +kernel
theorem dX6_whose_106 : decode cX6_whose 106 = .ok (.goto 4, 3) := by decide +kernel
theorem dX6_whose_109 : decode cX6_whose 109 = .ok (.iconst 0, 1) := by decide +kernel
theorem dX6_whose_110 : decode cX6_whose 110 = .ok (.istore 8, 2) := by decide +kernel
theorem dX6_whose_112 : decode cX6_whose 112 = .ok (.iload 8, 2) := by decide +kernel
theorem dX6_whose_114 : decode cX6_whose 114 = .ok (.ifCond .eq 18, 3) := by decide +kernel
theorem dX6_whose_117 : decode cX6_whose 117 = .ok (.iload_n 2, 1) := by decide +kernel
theorem dX6_whose_118 : decode cX6_whose 118 = .ok (.ifCond .ne 14, 3) := by decide +kernel
theorem dX6_whose_121 : decode cX6_whose 121 = .ok (.bipush 100, 2) := by decide +kernel
theorem dX6_whose_123 : decode cX6_whose 123 = .ok (.iload 5, 2) := by decide +kernel
theorem dX6_whose_125 : decode cX6_whose 125 = .ok (.imul, 1) := by decide +kernel
theorem dX6_whose_126 : decode cX6_whose 126 = .ok (.iload 7, 2) := by decide +kernel
theorem dX6_whose_128 : decode cX6_whose 128 = .ok (.iadd, 1) := by decide +kernel
theorem dX6_whose_129 : decode cX6_whose 129 = .ok (.goto 4, 3) := by decide +kernel
theorem dX6_whose_132 : decode cX6_whose 132 = .ok (.iload_n 3, 1) := by decide +kernel
theorem dX6_whose_133 : decode cX6_whose 133 = .ok (.istore_n 3, 1) := by decide +kernel
theorem dX6_whose_134 : decode cX6_whose 134 = .ok (.iload_n 2, 1) := by decide +kernel
theorem dX6_whose_135 : decode cX6_whose 135 = .ok (.iload 8, 2) := by decide +kernel
theorem dX6_whose_137 : decode cX6_whose 137 = .ok (.ifCond .eq 7, 3) := by decide +kernel
theorem dX6_whose_140 : decode cX6_whose 140 = .ok (.iconst 1, 1) := by decide +kernel
theorem dX6_whose_141 : decode cX6_whose 141 = .ok (.goto 4, 3) := by decide +kernel
theorem dX6_whose_144 : decode cX6_whose 144 = .ok (.iconst 0, 1) := by decide +kernel
theorem dX6_whose_145 : decode cX6_whose 145 = .ok (.iadd, 1) := by decide +kernel
theorem dX6_whose_146 : decode cX6_whose 146 = .ok (.istore_n 2, 1) := by decide +kernel
theorem dX6_whose_147 : decode cX6_whose 147 = .ok (.iload 4, 2) := by decide +kernel
theorem dX6_whose_149 : decode cX6_whose 149 = .ok (.iload 8, 2) := by decide +kernel
theorem dX6_whose_151 : decode cX6_whose 151 = .ok (.ifCond .eq 10, 3) := by decide +kernel
theorem dX6_whose_154 : decode cX6_whose 154 = .ok (.iconst 1, 1) := by decide +kernel
theorem dX6_whose_155 : decode cX6_whose 155 = .ok (.iload 5, 2) := by decide +kernel
theorem dX6_whose_157 : decode cX6_whose 157 = .ok (.ishl, 1) := by decide +kernel
theorem dX6_whose_158 : decode cX6_whose 158 = .ok (.goto 4, 3) := by decide +kernel
theorem dX6_whose_161 : decode cX6_whose 161 = .ok (.iconst 0, 1) := by decide +kernel
theorem dX6_whose_162 : decode cX6_whose 162 = .ok (.ior, 1) := by decide +kernel
theorem dX6_whose_163 : decode cX6_whose 163 = .ok (.istore 4, 2) := by decide +kernel
theorem dX6_whose_165 : decode cX6_whose 165 = .ok (.iinc 7 1, 3) := by decide +kernel
theorem dX6_whose_168 : decode cX6_whose 168 = .ok (.goto (-112), 3) := by decide +kernel
theorem dX6_whose_171 : decode cX6_whose 171 = .ok (.aload_n 0, 1) := by decide +kernel
theorem dX6_whose_172 : decode cX6_whose 172 = .ok (.getfield 19, 3) := by decide +kernel
theorem dX6_whose_175 : decode cX6_whose 175 = .ok (.iconst 2, 1) := by decide +kernel
theorem dX6_whose_176 : decode cX6_whose 176 = .ok (.iconst 5, 1) := by decide +kernel
theorem dX6_whose_177 : decode cX6_whose 177 = .ok (.iload 5, 2) := by decide +kernel
theorem dX6_whose_179 : decode cX6_whose 179 = .ok (.imul, 1) := by decide +kernel
theorem dX6_whose_180 : decode cX6_whose 180 = .ok (.iadd, 1) := by decide +kernel
theorem dX6_whose_181 : decode cX6_whose 181 = .ok (.iconst 2, 1) := by decide +kernel
theorem dX6_whose_182 : decode cX6_whose 182 = .ok (.iadd, 1) := by decide +kernel
theorem dX6_whose_183 : decode cX6_whose 183 = .ok (.iload 6, 2) := by decide +kernel
theorem dX6_whose_185 : decode cX6_whose 185 = .ok (.iastore, 1) := by decide +kernel
theorem dX6_whose_186 : decode cX6_whose 186 = .ok (.iinc 5 1, 3) := by decide +kernel
theorem dX6_whose_189 : decode cX6_whose 189 = .ok (.goto (-164), 3) := by decide +kernel
theorem dX6_whose_192 : decode cX6_whose 192 = .ok (.iload_n 1, 1) := by decide +kernel
theorem dX6_whose_193 : decode cX6_whose 193 = .ok (.ifCond .ne 7, 3) := by decide +kernel
theorem dX6_whose_196 : decode cX6_whose 196 = .ok (.iload_n 2, 1) := by decide +kernel
theorem dX6_whose_197 : decode cX6_whose 197 = .ok (.goto 14, 3) := by decide +kernel
theorem dX6_whose_200 : decode cX6_whose 200 = .ok (.iload_n 1, 1) := by decide +kernel
theorem dX6_whose_201 : decode cX6_whose 201 = .ok (.iconst 1, 1) := by decide +kernel
theorem dX6_whose_202 : decode cX6_whose 202 = .ok (.if_icmp .ne 7, 3) := by decide +kernel
theorem dX6_whose_205 : decode cX6_whose 205 = .ok (.iload_n 3, 1) := by decide +kernel
theorem dX6_whose_206 : decode cX6_whose 206 = .ok (.goto 5, 3) := by decide +kernel
theorem dX6_whose_209 : decode cX6_whose 209 = .ok (.iload 4, 2) := by decide +kernel
theorem dX6_whose_211 : decode cX6_whose 211 = .ok (.ireturn, 1) := by decide +kernel
set_option maxRecDepth 20000 in
theorem ggX6_mark_X6_in : GoodIn wsX6_mark wsX6_in := goodIn_r _ [13] (by decide +kernel) (by decide +kernel)
set_option maxRecDepth 20000 in
theorem gX6_mark_X6_in : GoodIn wsX6_mark (va_wsS RX6 42 yX6_in wsX6_in) := goodIn_app (goodIn_of _ (by decide +kernel)) ggX6_mark_X6_in
set_option maxRecDepth 20000 in
theorem ggX6_mark_X6_isTree : GoodIn wsX6_mark wsX6_isTree := goodIn_r _ [17, 9, 10, 11, 12, 13, 50, 51, 52, 53, 54, 55, 56, 57, 58, 59, 60, 61, 62, 63, 64, 65] (by decide +kernel) (by decide +kernel)
set_option maxRecDepth 20000 in
theorem gX6_mark_X6_isTree : GoodIn wsX6_mark (wsV RX6 141 RX6 yX6_isTree wsX6_isTree) := goodIn_app (goodIn_of _ (by decide +kernel)) ggX6_mark_X6_isTree
set_option maxRecDepth 20000 in
theorem ggX6_mark_X6_high : GoodIn wsX6_mark wsX6_high := goodIn_r _ [21, 9, 50, 51, 52, 53, 54, 55, 56, 57, 58, 59, 60, 61, 62, 63, 64, 65] (by decide +kernel) (by decide +kernel)
set_option maxRecDepth 20000 in
theorem gX6_mark_X6_high : GoodIn wsX6_mark (wsV RX6 122 RX6 yX6_high wsX6_high) := goodIn_app (goodIn_of _ (by decide +kernel)) ggX6_mark_X6_high
set_option maxRecDepth 20000 in
theorem ggX6_mark_X6_coveredBy : GoodIn wsX6_mark wsX6_coveredBy := goodIn_r _ [25, 26, 27, 28, 29, 12, 30, 31, 32, 33, 34, 9, 35, 36, 37, 38, 39, 40, 41, 42, 18, 19, 20, 21, 43, 44, 45, 46, 50, 51, 52, 53, 54, 55, 56, 57, 58, 59, 60, 61, 62, 63, 64, 65] (by decide +kernel) (by decide +kernel)
set_option maxRecDepth 20000 in
theorem gX6_mark_X6_coveredBy : GoodIn wsX6_mark (wsV RX6 132 RX6 yX6_coveredBy wsX6_coveredBy) := goodIn_app (goodIn_of _ (by decide +kernel)) ggX6_mark_X6_coveredBy
set_option maxRecDepth 20000 in
theorem ggX6_mark_X6_many : GoodIn wsX6_mark wsX6_many := goodIn_r _ [49] (by decide +kernel) (by decide +kernel)
set_option maxRecDepth 20000 in
theorem gX6_mark_X6_many : GoodIn wsX6_mark (va_wsS RX6 138 yX6_many wsX6_many) := goodIn_app (goodIn_of _ (by decide +kernel)) ggX6_mark_X6_many
theorem dX6_mark_0 : decode cX6_mark 0 = .ok (.iload_n 1, 1) := by decide +kernel
theorem dX6_mark_1 : decode cX6_mark 1 = .ok (.i2l, 1) := by decide +kernel
theorem dX6_mark_2 : decode cX6_mark 2 = .ok (.lconst 0, 1) := by decide +kernel
theorem dX6_mark_3 : decode cX6_mark 3 = .ok (.ldc2_w 144, 3) := by decide +kernel
theorem dX6_mark_6 : decode cX6_mark 6 = .ok (.invokestatic 42, 3) := by decide +kernel
theorem dX6_mark_9 : decode cX6_mark 9 = .ok (.ifCond .eq 11, 3) := by decide +kernel
theorem dX6_mark_12 : decode cX6_mark 12 = .ok (.aload_n 0, 1) := by decide +kernel
theorem dX6_mark_13 : decode cX6_mark 13 = .ok (.iload_n 2, 1) := by decide +kernel
theorem dX6_mark_14 : decode cX6_mark 14 = .ok (.invokevirtual 141, 3) := by decide +kernel
theorem dX6_mark_17 : decode cX6_mark 17 = .ok (.ifCond .ne 6, 3) := by decide +kernel
theorem dX6_mark_20 : decode cX6_mark 20 = .ok (.ldc 198, 2) := by decide +kernel
theorem dX6_mark_22 : decode cX6_mark 22 = .ok (.ireturn, 1) := by decide +kernel
theorem dX6_mark_23 : decode cX6_mark 23 = .ok (.aload_n 0, 1) := by decide +kernel
theorem dX6_mark_24 : decode cX6_mark 24 = .ok (.dup, 1) := by decide +kernel
theorem dX6_mark_25 : decode cX6_mark 25 = .ok (.getfield 199, 3) := by decide +kernel
theorem dX6_mark_28 : decode cX6_mark 28 = .ok (.iload_n 1, 1) := by decide +kernel
theorem dX6_mark_29 : decode cX6_mark 29 = .ok (.ifCond .ne 7, 3) := by decide +kernel
theorem dX6_mark_32 : decode cX6_mark 32 = .ok (.lconst 1, 1) := by decide +kernel
theorem dX6_mark_33 : decode cX6_mark 33 = .ok (.goto 50, 3) := by decide +kernel
theorem dX6_mark_36 : decode cX6_mark 36 = .ok (.iload_n 1, 1) := by decide +kernel
theorem dX6_mark_37 : decode cX6_mark 37 = .ok (.iconst 1, 1) := by decide +kernel
theorem dX6_mark_38 : decode cX6_mark 38 = .ok (.if_icmp .ne 9, 3) := by decide +kernel
theorem dX6_mark_41 : decode cX6_mark 41 = .ok (.ldc2_w 203, 3) := by decide +kernel
theorem dX6_mark_44 : decode cX6_mark 44 = .ok (.goto 39, 3) := by decide +kernel
theorem dX6_mark_47 : decode cX6_mark 47 = .ok (.iload_n 1, 1) := by decide +kernel
theorem dX6_mark_48 : decode cX6_mark 48 = .ok (.iconst 2, 1) := by decide +kernel
theorem dX6_mark_49 : decode cX6_mark 49 = .ok (.if_icmp .ne 9, 3) := by decide +kernel
theorem dX6_mark_52 : decode cX6_mark 52 = .ok (.ldc2_w 205, 3) := by decide +kernel
theorem dX6_mark_55 : decode cX6_mark 55 = .ok (.goto 28, 3) := by decide +kernel
theorem dX6_mark_58 : decode cX6_mark 58 = .ok (.iload_n 1, 1) := by decide +kernel
theorem dX6_mark_59 : decode cX6_mark 59 = .ok (.iconst 3, 1) := by decide +kernel
theorem dX6_mark_60 : decode cX6_mark 60 = .ok (.if_icmp .ne 9, 3) := by decide +kernel
theorem dX6_mark_63 : decode cX6_mark 63 = .ok (.ldc2_w 207, 3) := by decide +kernel
theorem dX6_mark_66 : decode cX6_mark 66 = .ok (.goto 17, 3) := by decide +kernel
theorem dX6_mark_69 : decode cX6_mark 69 = .ok (.iload_n 1, 1) := by decide +kernel
theorem dX6_mark_70 : decode cX6_mark 70 = .ok (.iconst 4, 1) := by decide +kernel
theorem dX6_mark_71 : decode cX6_mark 71 = .ok (.if_icmp .ne 9, 3) := by decide +kernel
theorem dX6_mark_74 : decode cX6_mark 74 = .ok (.ldc2_w 209, 3) := by decide +kernel
theorem dX6_mark_77 : decode cX6_mark 77 = .ok (.goto 6, 3) := by decide +kernel
theorem dX6_mark_80 : decode cX6_mark 80 = .ok (.ldc2_w 211, 3) := by decide +kernel
theorem dX6_mark_83 : decode cX6_mark 83 = .ok (.ladd, 1) := by decide +kernel
theorem dX6_mark_84 : decode cX6_mark 84 = .ok (.putfield 199, 3) := by decide +kernel
theorem dX6_mark_87 : decode cX6_mark 87 = .ok (.aload_n 0, 1) := by decide +kernel
theorem dX6_mark_88 : decode cX6_mark 88 = .ok (.iload_n 2, 1) := by decide +kernel
theorem dX6_mark_89 : decode cX6_mark 89 = .ok (.invokevirtual 122, 3) := by decide +kernel
theorem dX6_mark_92 : decode cX6_mark 92 = .ok (.aload_n 0, 1) := by decide +kernel
theorem dX6_mark_93 : decode cX6_mark 93 = .ok (.iload_n 2, 1) := by decide +kernel
theorem dX6_mark_94 : decode cX6_mark 94 = .ok (.invokevirtual 132, 3) := by decide +kernel
theorem dX6_mark_97 : decode cX6_mark 97 = .ok (.invokestatic 138, 3) := by decide +kernel
theorem dX6_mark_100 : decode cX6_mark 100 = .ok (.iadd, 1) := by decide +kernel
theorem dX6_mark_101 : decode cX6_mark 101 = .ok (.istore_n 3, 1) := by decide +kernel
theorem dX6_mark_102 : decode cX6_mark 102 = .ok (.aload_n 0, 1) := by decide +kernel
theorem dX6_mark_103 : decode cX6_mark 103 = .ok (.iload_n 2, 1) := by decide +kernel
theorem dX6_mark_104 : decode cX6_mark 104 = .ok (.invokevirtual 122, 3) := by decide +kernel
theorem dX6_mark_107 : decode cX6_mark 107 = .ok (.aload_n 0, 1) := by decide +kernel
theorem dX6_mark_108 : decode cX6_mark 108 = .ok (.getfield 19, 3) := by decide +kernel
theorem dX6_mark_111 : decode cX6_mark 111 = .ok (.iconst 2, 1) := by decide +kernel
theorem dX6_mark_112 : decode cX6_mark 112 = .ok (.iconst 5, 1) := by decide +kernel
theorem dX6_mark_113 : decode cX6_mark 113 = .ok (.iload_n 2, 1) := by decide +kernel
theorem dX6_mark_114 : decode cX6_mark 114 = .ok (.imul, 1) := by decide +kernel
theorem dX6_mark_115 : decode cX6_mark 115 = .ok (.iadd, 1) := by decide +kernel
theorem dX6_mark_116 : decode cX6_mark 116 = .ok (.iaload, 1) := by decide +kernel
theorem dX6_mark_117 : decode cX6_mark 117 = .ok (.isub, 1) := by decide +kernel
theorem dX6_mark_118 : decode cX6_mark 118 = .ok (.istore 4, 2) := by decide +kernel
theorem dX6_mark_120 : decode cX6_mark 120 = .ok (.iload_n 1, 1) := by decide +kernel
theorem dX6_mark_121 : decode cX6_mark 121 = .ok (.tableswitch 66 0 4 #[35, 41, 43, 46, 50], 35) := by decide +kernel
theorem dX6_mark_156 : decode cX6_mark 156 = .ok (.aload_n 0, 1) := by decide +kernel
theorem dX6_mark_157 : decode cX6_mark 157 = .ok (.iload_n 2, 1) := by decide +kernel
theorem dX6_mark_158 : decode cX6_mark 158 = .ok (.invokevirtual 122, 3) := by decide +kernel
theorem dX6_mark_161 : decode cX6_mark 161 = .ok (.ireturn, 1) := by decide +kernel
theorem dX6_mark_162 : decode cX6_mark 162 = .ok (.iload_n 3, 1) := by decide +kernel
theorem dX6_mark_163 : decode cX6_mark 163 = .ok (.ireturn, 1) := by decide +kernel
theorem dX6_mark_164 : decode cX6_mark 164 = .ok (.iload 4, 2) := by decide +kernel
theorem dX6_mark_166 : decode cX6_mark 166 = .ok (.ireturn, 1) := by decide +kernel
theorem dX6_mark_167 : decode cX6_mark 167 = .ok (.iconst 2, 1) := by decide +kernel
theorem dX6_mark_168 : decode cX6_mark 168 = .ok (.iload_n 3, 1) := by decide +kernel
theorem dX6_mark_169 : decode cX6_mark 169 = .ok (.imul, 1) := by decide +kernel
theorem dX6_mark_170 : decode cX6_mark 170 = .ok (.ireturn, 1) := by decide +kernel
theorem dX6_mark_171 : decode cX6_mark 171 = .ok (.iload 4, 2) := by decide +kernel
theorem dX6_mark_173 : decode cX6_mark 173 = .ok (.aload_n 0, 1) := by decide +kernel
theorem dX6_mark_174 : decode cX6_mark 174 = .ok (.getfield 19, 3) := by decide +kernel
theorem dX6_mark_177 : decode cX6_mark 177 = .ok (.iconst 2, 1) := by decide +kernel
theorem dX6_mark_178 : decode cX6_mark 178 = .ok (.iconst 5, 1) := by decide +kernel
theorem dX6_mark_179 : decode cX6_mark 179 = .ok (.iload_n 2, 1) := by decide +kernel
theorem dX6_mark_180 : decode cX6_mark 180 = .ok (.imul, 1) := by decide +kernel
theorem dX6_mark_181 : decode cX6_mark 181 = .ok (.iadd, 1) := by decide +kernel
theorem dX6_mark_182 : decode cX6_mark 182 = .ok (.iconst 3, 1) := by decide +kernel
theorem dX6_mark_183 : decode cX6_mark 183 = .ok (.iadd, 1) := by decide +kernel
theorem dX6_mark_184 : decode cX6_mark 184 = .ok (.iaload, 1) := by decide +kernel
theorem dX6_mark_185 : decode cX6_mark 185 = .ok (.iadd, 1) := by decide +kernel
theorem dX6_mark_186 : decode cX6_mark 186 = .ok (.ireturn, 1) := by decide +kernel
theorem dX6_mark_187 : decode cX6_mark 187 = .ok (.aload_n 0, 1) := by decide +kernel
theorem dX6_mark_188 : decode cX6_mark 188 = .ok (.iload_n 2, 1) := by decide +kernel
theorem dX6_mark_189 : decode cX6_mark 189 = .ok (.invokevirtual 122, 3) := by decide +kernel
theorem dX6_mark_192 : decode cX6_mark 192 = .ok (.aload_n 0, 1) := by decide +kernel
theorem dX6_mark_193 : decode cX6_mark 193 = .ok (.getfield 19, 3) := by decide +kernel
theorem dX6_mark_196 : decode cX6_mark 196 = .ok (.iconst 0, 1) := by decide +kernel
theorem dX6_mark_197 : decode cX6_mark 197 = .ok (.iaload, 1) := by decide +kernel
theorem dX6_mark_198 : decode cX6_mark 198 = .ok (.iadd, 1) := by decide +kernel
theorem dX6_mark_199 : decode cX6_mark 199 = .ok (.ireturn, 1) := by decide +kernel
theorem dX6_trace_0 : decode cX6_trace 0 = .ok (.aload_n 0, 1) := by decide +kernel
theorem dX6_trace_1 : decode cX6_trace 1 = .ok (.getfield 199, 3) := by decide +kernel
theorem dX6_trace_4 : decode cX6_trace 4 = .ok (.lreturn, 1) := by decide +kernel
set_option maxRecDepth 20000 in
theorem ggX6_keep_X6_in : GoodIn wsX6_keep wsX6_in := goodIn_r _ [8] (by decide +kernel) (by decide +kernel)
set_option maxRecDepth 20000 in
theorem gX6_keep_X6_in : GoodIn wsX6_keep (va_wsS RX6 42 yX6_in wsX6_in) := goodIn_app (goodIn_of _ (by decide +kernel)) ggX6_keep_X6_in
theorem dX6_keep_0 : decode cX6_keep 0 = .ok (.iload_n 1, 1) := by decide +kernel
theorem dX6_keep_1 : decode cX6_keep 1 = .ok (.i2l, 1) := by decide +kernel
theorem dX6_keep_2 : decode cX6_keep 2 = .ok (.lconst 0, 1) := by decide +kernel
theorem dX6_keep_3 : decode cX6_keep 3 = .ok (.lconst 1, 1) := by decide +kernel
theorem dX6_keep_4 : decode cX6_keep 4 = .ok (.invokestatic 42, 3) := by decide +kernel
theorem dX6_keep_7 : decode cX6_keep 7 = .ok (.ifCond .ne 5, 3) := by decide +kernel
theorem dX6_keep_10 : decode cX6_keep 10 = .ok (.iconst (-1), 1) := by decide +kernel
theorem dX6_keep_11 : decode cX6_keep 11 = .ok (.ireturn, 1) := by decide +kernel
theorem dX6_keep_12 : decode cX6_keep 12 = .ok (.sipush 475, 3) := by decide +kernel
theorem dX6_keep_15 : decode cX6_keep 15 = .ok (.iload_n 1, 1) := by decide +kernel
theorem dX6_keep_16 : decode cX6_keep 16 = .ok (.imul, 1) := by decide +kernel
theorem dX6_keep_17 : decode cX6_keep 17 = .ok (.istore_n 2, 1) := by decide +kernel
theorem dX6_keep_18 : decode cX6_keep 18 = .ok (.aload_n 0, 1) := by decide +kernel
theorem dX6_keep_19 : decode cX6_keep 19 = .ok (.getfield 31, 3) := by decide +kernel
theorem dX6_keep_22 : decode cX6_keep 22 = .ok (.iload_n 2, 1) := by decide +kernel
theorem dX6_keep_23 : decode cX6_keep 23 = .ok (.iconst 1, 1) := by decide +kernel
theorem dX6_keep_24 : decode cX6_keep 24 = .ok (.iastore, 1) := by decide +kernel
theorem dX6_keep_25 : decode cX6_keep 25 = .ok (.aload_n 0, 1) := by decide +kernel
theorem dX6_keep_26 : decode cX6_keep 26 = .ok (.getfield 31, 3) := by decide +kernel
theorem dX6_keep_29 : decode cX6_keep 29 = .ok (.iload_n 2, 1) := by decide +kernel
theorem dX6_keep_30 : decode cX6_keep 30 = .ok (.iconst 1, 1) := by decide +kernel
theorem dX6_keep_31 : decode cX6_keep 31 = .ok (.iadd, 1) := by decide +kernel
theorem dX6_keep_32 : decode cX6_keep 32 = .ok (.aload_n 0, 1) := by decide +kernel
theorem dX6_keep_33 : decode cX6_keep 33 = .ok (.getfield 110, 3) := by decide +kernel
theorem dX6_keep_36 : decode cX6_keep 36 = .ok (.iastore, 1) := by decide +kernel
theorem dX6_keep_37 : decode cX6_keep 37 = .ok (.iconst 0, 1) := by decide +kernel
theorem dX6_keep_38 : decode cX6_keep 38 = .ok (.istore_n 3, 1) := by decide +kernel
theorem dX6_keep_39 : decode cX6_keep 39 = .ok (.iload_n 3, 1) := by decide +kernel
theorem dX6_keep_40 : decode cX6_keep 40 = .ok (.bipush 43, 2) := by decide +kernel
theorem dX6_keep_42 : decode cX6_keep 42 = .ok (.if_icmp .ge 25, 3) := by decide +kernel
theorem dX6_keep_45 : decode cX6_keep 45 = .ok (.aload_n 0, 1) := by decide +kernel
theorem dX6_keep_46 : decode cX6_keep 46 = .ok (.getfield 31, 3) := by decide +kernel
theorem dX6_keep_49 : decode cX6_keep 49 = .ok (.iload_n 2, 1) := by decide +kernel
theorem dX6_keep_50 : decode cX6_keep 50 = .ok (.iconst 2, 1) := by decide +kernel
theorem dX6_keep_51 : decode cX6_keep 51 = .ok (.iadd, 1) := by decide +kernel
theorem dX6_keep_52 : decode cX6_keep 52 = .ok (.iload_n 3, 1) := by decide +kernel
theorem dX6_keep_53 : decode cX6_keep 53 = .ok (.iadd, 1) := by decide +kernel
theorem dX6_keep_54 : decode cX6_keep 54 = .ok (.aload_n 0, 1) := by decide +kernel
theorem dX6_keep_55 : decode cX6_keep 55 = .ok (.getfield 19, 3) := by decide +kernel
theorem dX6_keep_58 : decode cX6_keep 58 = .ok (.iload_n 3, 1) := by decide +kernel
theorem dX6_keep_59 : decode cX6_keep 59 = .ok (.iaload, 1) := by decide +kernel
theorem dX6_keep_60 : decode cX6_keep 60 = .ok (.iastore, 1) := by decide +kernel
theorem dX6_keep_61 : decode cX6_keep 61 = .ok (.iinc 3 1, 3) := by decide +kernel
theorem dX6_keep_64 : decode cX6_keep 64 = .ok (.goto (-25), 3) := by decide +kernel
theorem dX6_keep_67 : decode cX6_keep 67 = .ok (.iconst 0, 1) := by decide +kernel
theorem dX6_keep_68 : decode cX6_keep 68 = .ok (.istore_n 3, 1) := by decide +kernel
theorem dX6_keep_69 : decode cX6_keep 69 = .ok (.iload_n 3, 1) := by decide +kernel
theorem dX6_keep_70 : decode cX6_keep 70 = .ok (.sipush 430, 3) := by decide +kernel
theorem dX6_keep_73 : decode cX6_keep 73 = .ok (.if_icmp .ge 26, 3) := by decide +kernel
theorem dX6_keep_76 : decode cX6_keep 76 = .ok (.aload_n 0, 1) := by decide +kernel
theorem dX6_keep_77 : decode cX6_keep 77 = .ok (.getfield 31, 3) := by decide +kernel
theorem dX6_keep_80 : decode cX6_keep 80 = .ok (.iload_n 2, 1) := by decide +kernel
theorem dX6_keep_81 : decode cX6_keep 81 = .ok (.bipush 45, 2) := by decide +kernel
theorem dX6_keep_83 : decode cX6_keep 83 = .ok (.iadd, 1) := by decide +kernel
theorem dX6_keep_84 : decode cX6_keep 84 = .ok (.iload_n 3, 1) := by decide +kernel
theorem dX6_keep_85 : decode cX6_keep 85 = .ok (.iadd, 1) := by decide +kernel
theorem dX6_keep_86 : decode cX6_keep 86 = .ok (.aload_n 0, 1) := by decide +kernel
theorem dX6_keep_87 : decode cX6_keep 87 = .ok (.getfield 22, 3) := by decide +kernel
theorem dX6_keep_90 : decode cX6_keep 90 = .ok (.iload_n 3, 1) := by decide +kernel
theorem dX6_keep_91 : decode cX6_keep 91 = .ok (.iaload, 1) := by decide +kernel
theorem dX6_keep_92 : decode cX6_keep 92 = .ok (.iastore, 1) := by decide +kernel
theorem dX6_keep_93 : decode cX6_keep 93 = .ok (.iinc 3 1, 3) := by decide +kernel
theorem dX6_keep_96 : decode cX6_keep 96 = .ok (.goto (-27), 3) := by decide +kernel
theorem dX6_keep_99 : decode cX6_keep 99 = .ok (.aload_n 0, 1) := by decide +kernel
theorem dX6_keep_100 : decode cX6_keep 100 = .ok (.getfield 19, 3) := by decide +kernel
theorem dX6_keep_103 : decode cX6_keep 103 = .ok (.iconst 0, 1) := by decide +kernel
theorem dX6_keep_104 : decode cX6_keep 104 = .ok (.iaload, 1) := by decide +kernel
theorem dX6_keep_105 : decode cX6_keep 105 = .ok (.ireturn, 1) := by decide +kernel
set_option maxRecDepth 20000 in
theorem ggX6_back_X6_in : GoodIn wsX6_back wsX6_in := goodIn_r _ [8] (by decide +kernel) (by decide +kernel)
set_option maxRecDepth 20000 in
theorem gX6_back_X6_in : GoodIn wsX6_back (va_wsS RX6 42 yX6_in wsX6_in) := goodIn_app (goodIn_of _ (by decide +kernel)) ggX6_back_X6_in
theorem dX6_back_0 : decode cX6_back 0 = .ok (.iload_n 1, 1) := by decide +kernel
theorem dX6_back_1 : decode cX6_back 1 = .ok (.i2l, 1) := by decide +kernel
theorem dX6_back_2 : decode cX6_back 2 = .ok (.lconst 0, 1) := by decide +kernel
theorem dX6_back_3 : decode cX6_back 3 = .ok (.lconst 1, 1) := by decide +kernel
theorem dX6_back_4 : decode cX6_back 4 = .ok (.invokestatic 42, 3) := by decide +kernel
theorem dX6_back_7 : decode cX6_back 7 = .ok (.ifCond .ne 5, 3) := by decide +kernel
theorem dX6_back_10 : decode cX6_back 10 = .ok (.iconst (-1), 1) := by decide +kernel
theorem dX6_back_11 : decode cX6_back 11 = .ok (.ireturn, 1) := by decide +kernel
theorem dX6_back_12 : decode cX6_back 12 = .ok (.sipush 475, 3) := by decide +kernel
theorem dX6_back_15 : decode cX6_back 15 = .ok (.iload_n 1, 1) := by decide +kernel
theorem dX6_back_16 : decode cX6_back 16 = .ok (.imul, 1) := by decide +kernel
theorem dX6_back_17 : decode cX6_back 17 = .ok (.istore_n 2, 1) := by decide +kernel
theorem dX6_back_18 : decode cX6_back 18 = .ok (.aload_n 0, 1) := by decide +kernel
theorem dX6_back_19 : decode cX6_back 19 = .ok (.getfield 31, 3) := by decide +kernel
theorem dX6_back_22 : decode cX6_back 22 = .ok (.iload_n 2, 1) := by decide +kernel
theorem dX6_back_23 : decode cX6_back 23 = .ok (.iaload, 1) := by decide +kernel
theorem dX6_back_24 : decode cX6_back 24 = .ok (.ifCond .ne 6, 3) := by decide +kernel
theorem dX6_back_27 : decode cX6_back 27 = .ok (.bipush (-2), 2) := by decide +kernel
theorem dX6_back_29 : decode cX6_back 29 = .ok (.ireturn, 1) := by decide +kernel
theorem dX6_back_30 : decode cX6_back 30 = .ok (.aload_n 0, 1) := by decide +kernel
theorem dX6_back_31 : decode cX6_back 31 = .ok (.aload_n 0, 1) := by decide +kernel
theorem dX6_back_32 : decode cX6_back 32 = .ok (.getfield 31, 3) := by decide +kernel
theorem dX6_back_35 : decode cX6_back 35 = .ok (.iload_n 2, 1) := by decide +kernel
theorem dX6_back_36 : decode cX6_back 36 = .ok (.iconst 1, 1) := by decide +kernel
theorem dX6_back_37 : decode cX6_back 37 = .ok (.iadd, 1) := by decide +kernel
theorem dX6_back_38 : decode cX6_back 38 = .ok (.iaload, 1) := by decide +kernel
theorem dX6_back_39 : decode cX6_back 39 = .ok (.putfield 110, 3) := by decide +kernel
theorem dX6_back_42 : decode cX6_back 42 = .ok (.iconst 0, 1) := by decide +kernel
theorem dX6_back_43 : decode cX6_back 43 = .ok (.istore_n 3, 1) := by decide +kernel
theorem dX6_back_44 : decode cX6_back 44 = .ok (.iload_n 3, 1) := by decide +kernel
theorem dX6_back_45 : decode cX6_back 45 = .ok (.bipush 43, 2) := by decide +kernel
theorem dX6_back_47 : decode cX6_back 47 = .ok (.if_icmp .ge 25, 3) := by decide +kernel
theorem dX6_back_50 : decode cX6_back 50 = .ok (.aload_n 0, 1) := by decide +kernel
theorem dX6_back_51 : decode cX6_back 51 = .ok (.getfield 19, 3) := by decide +kernel
theorem dX6_back_54 : decode cX6_back 54 = .ok (.iload_n 3, 1) := by decide +kernel
theorem dX6_back_55 : decode cX6_back 55 = .ok (.aload_n 0, 1) := by decide +kernel
theorem dX6_back_56 : decode cX6_back 56 = .ok (.getfield 31, 3) := by decide +kernel
theorem dX6_back_59 : decode cX6_back 59 = .ok (.iload_n 2, 1) := by decide +kernel
theorem dX6_back_60 : decode cX6_back 60 = .ok (.iconst 2, 1) := by decide +kernel
theorem dX6_back_61 : decode cX6_back 61 = .ok (.iadd, 1) := by decide +kernel
theorem dX6_back_62 : decode cX6_back 62 = .ok (.iload_n 3, 1) := by decide +kernel
theorem dX6_back_63 : decode cX6_back 63 = .ok (.iadd, 1) := by decide +kernel
theorem dX6_back_64 : decode cX6_back 64 = .ok (.iaload, 1) := by decide +kernel
theorem dX6_back_65 : decode cX6_back 65 = .ok (.iastore, 1) := by decide +kernel
theorem dX6_back_66 : decode cX6_back 66 = .ok (.iinc 3 1, 3) := by decide +kernel
theorem dX6_back_69 : decode cX6_back 69 = .ok (.goto (-25), 3) := by decide +kernel
theorem dX6_back_72 : decode cX6_back 72 = .ok (.iconst 0, 1) := by decide +kernel
theorem dX6_back_73 : decode cX6_back 73 = .ok (.istore_n 3, 1) := by decide +kernel
theorem dX6_back_74 : decode cX6_back 74 = .ok (.iload_n 3, 1) := by decide +kernel
theorem dX6_back_75 : decode cX6_back 75 = .ok (.sipush 430, 3) := by decide +kernel
theorem dX6_back_78 : decode cX6_back 78 = .ok (.if_icmp .ge 26, 3) := by decide +kernel
theorem dX6_back_81 : decode cX6_back 81 = .ok (.aload_n 0, 1) := by decide +kernel
theorem dX6_back_82 : decode cX6_back 82 = .ok (.getfield 22, 3) := by decide +kernel
theorem dX6_back_85 : decode cX6_back 85 = .ok (.iload_n 3, 1) := by decide +kernel
theorem dX6_back_86 : decode cX6_back 86 = .ok (.aload_n 0, 1) := by decide +kernel
theorem dX6_back_87 : decode cX6_back 87 = .ok (.getfield 31, 3) := by decide +kernel
theorem dX6_back_90 : decode cX6_back 90 = .ok (.iload_n 2, 1) := by decide +kernel
theorem dX6_back_91 : decode cX6_back 91 = .ok (.bipush 45, 2) := by decide +kernel
theorem dX6_back_93 : decode cX6_back 93 = .ok (.iadd, 1) := by decide +kernel
theorem dX6_back_94 : decode cX6_back 94 = .ok (.iload_n 3, 1) := by decide +kernel
theorem dX6_back_95 : decode cX6_back 95 = .ok (.iadd, 1) := by decide +kernel
theorem dX6_back_96 : decode cX6_back 96 = .ok (.iaload, 1) := by decide +kernel
theorem dX6_back_97 : decode cX6_back 97 = .ok (.iastore, 1) := by decide +kernel
theorem dX6_back_98 : decode cX6_back 98 = .ok (.iinc 3 1, 3) := by decide +kernel
theorem dX6_back_101 : decode cX6_back 101 = .ok (.goto (-27), 3) := by decide +kernel
theorem dX6_back_104 : decode cX6_back 104 = .ok (.aload_n 0, 1) := by decide +kernel
theorem dX6_back_105 : decode cX6_back 105 = .ok (.getfield 19, 3) := by decide +kernel
theorem dX6_back_108 : decode cX6_back 108 = .ok (.iconst 0, 1) := by decide +kernel
theorem dX6_back_109 : decode cX6_back 109 = .ok (.iaload, 1) := by decide +kernel
theorem dX6_back_110 : decode cX6_back 110 = .ok (.ireturn, 1) := by decide +kernel
theorem dX6_count_0 : decode cX6_count 0 = .ok (.iload_n 1, 1) := by decide +kernel
theorem dX6_count_1 : decode cX6_count 1 = .ok (.tableswitch 63 0 5 #[39, 46, 46, 46, 53, 58], 39) := by decide +kernel
theorem dX6_count_40 : decode cX6_count 40 = .ok (.aload_n 0, 1) := by decide +kernel
theorem dX6_count_41 : decode cX6_count 41 = .ok (.getfield 19, 3) := by decide +kernel
theorem dX6_count_44 : decode cX6_count 44 = .ok (.iconst 1, 1) := by decide +kernel
theorem dX6_count_45 : decode cX6_count 45 = .ok (.iaload, 1) := by decide +kernel
theorem dX6_count_46 : decode cX6_count 46 = .ok (.ireturn, 1) := by decide +kernel
theorem dX6_count_47 : decode cX6_count 47 = .ok (.aload_n 0, 1) := by decide +kernel
theorem dX6_count_48 : decode cX6_count 48 = .ok (.getfield 16, 3) := by decide +kernel
theorem dX6_count_51 : decode cX6_count 51 = .ok (.iload_n 1, 1) := by decide +kernel
theorem dX6_count_52 : decode cX6_count 52 = .ok (.iaload, 1) := by decide +kernel
theorem dX6_count_53 : decode cX6_count 53 = .ok (.ireturn, 1) := by decide +kernel
theorem dX6_count_54 : decode cX6_count 54 = .ok (.aload_n 0, 1) := by decide +kernel
theorem dX6_count_55 : decode cX6_count 55 = .ok (.getfield 110, 3) := by decide +kernel
theorem dX6_count_58 : decode cX6_count 58 = .ok (.ireturn, 1) := by decide +kernel
theorem dX6_count_59 : decode cX6_count 59 = .ok (.aload_n 0, 1) := by decide +kernel
theorem dX6_count_60 : decode cX6_count 60 = .ok (.getfield 46, 3) := by decide +kernel
theorem dX6_count_63 : decode cX6_count 63 = .ok (.ireturn, 1) := by decide +kernel
theorem dX6_count_64 : decode cX6_count 64 = .ok (.iconst (-1), 1) := by decide +kernel
theorem dX6_count_65 : decode cX6_count 65 = .ok (.ireturn, 1) := by decide +kernel
theorem dJ6_bitCount_0f7a4_0 : decode cJ6_bitCount_0f7a4 0 = .ok (.iload_n 0, 1) := by decide +kernel
theorem dJ6_bitCount_0f7a4_1 : decode cJ6_bitCount_0f7a4 1 = .ok (.iload_n 0, 1) := by decide +kernel
theorem dJ6_bitCount_0f7a4_2 : decode cJ6_bitCount_0f7a4 2 = .ok (.iconst 1, 1) := by decide +kernel
theorem dJ6_bitCount_0f7a4_3 : decode cJ6_bitCount_0f7a4 3 = .ok (.iushr, 1) := by decide +kernel
theorem dJ6_bitCount_0f7a4_4 : decode cJ6_bitCount_0f7a4 4 = .ok (.ldc_w 265, 3) := by decide +kernel
theorem dJ6_bitCount_0f7a4_7 : decode cJ6_bitCount_0f7a4 7 = .ok (.iand, 1) := by decide +kernel
theorem dJ6_bitCount_0f7a4_8 : decode cJ6_bitCount_0f7a4 8 = .ok (.isub, 1) := by decide +kernel
theorem dJ6_bitCount_0f7a4_9 : decode cJ6_bitCount_0f7a4 9 = .ok (.istore_n 0, 1) := by decide +kernel
theorem dJ6_bitCount_0f7a4_10 : decode cJ6_bitCount_0f7a4 10 = .ok (.iload_n 0, 1) := by decide +kernel
theorem dJ6_bitCount_0f7a4_11 : decode cJ6_bitCount_0f7a4 11 = .ok (.ldc_w 266, 3) := by decide +kernel
theorem dJ6_bitCount_0f7a4_14 : decode cJ6_bitCount_0f7a4 14 = .ok (.iand, 1) := by decide +kernel
theorem dJ6_bitCount_0f7a4_15 : decode cJ6_bitCount_0f7a4 15 = .ok (.iload_n 0, 1) := by decide +kernel
theorem dJ6_bitCount_0f7a4_16 : decode cJ6_bitCount_0f7a4 16 = .ok (.iconst 2, 1) := by decide +kernel
theorem dJ6_bitCount_0f7a4_17 : decode cJ6_bitCount_0f7a4 17 = .ok (.iushr, 1) := by decide +kernel
theorem dJ6_bitCount_0f7a4_18 : decode cJ6_bitCount_0f7a4 18 = .ok (.ldc_w 266, 3) := by decide +kernel
theorem dJ6_bitCount_0f7a4_21 : decode cJ6_bitCount_0f7a4 21 = .ok (.iand, 1) := by decide +kernel
theorem dJ6_bitCount_0f7a4_22 : decode cJ6_bitCount_0f7a4 22 = .ok (.iadd, 1) := by decide +kernel
theorem dJ6_bitCount_0f7a4_23 : decode cJ6_bitCount_0f7a4 23 = .ok (.istore_n 0, 1) := by decide +kernel
theorem dJ6_bitCount_0f7a4_24 : decode cJ6_bitCount_0f7a4 24 = .ok (.iload_n 0, 1) := by decide +kernel
theorem dJ6_bitCount_0f7a4_25 : decode cJ6_bitCount_0f7a4 25 = .ok (.iload_n 0, 1) := by decide +kernel
theorem dJ6_bitCount_0f7a4_26 : decode cJ6_bitCount_0f7a4 26 = .ok (.iconst 4, 1) := by decide +kernel
theorem dJ6_bitCount_0f7a4_27 : decode cJ6_bitCount_0f7a4 27 = .ok (.iushr, 1) := by decide +kernel
theorem dJ6_bitCount_0f7a4_28 : decode cJ6_bitCount_0f7a4 28 = .ok (.iadd, 1) := by decide +kernel
theorem dJ6_bitCount_0f7a4_29 : decode cJ6_bitCount_0f7a4 29 = .ok (.ldc_w 267, 3) := by decide +kernel
theorem dJ6_bitCount_0f7a4_32 : decode cJ6_bitCount_0f7a4 32 = .ok (.iand, 1) := by decide +kernel
theorem dJ6_bitCount_0f7a4_33 : decode cJ6_bitCount_0f7a4 33 = .ok (.istore_n 0, 1) := by decide +kernel
theorem dJ6_bitCount_0f7a4_34 : decode cJ6_bitCount_0f7a4 34 = .ok (.iload_n 0, 1) := by decide +kernel
theorem dJ6_bitCount_0f7a4_35 : decode cJ6_bitCount_0f7a4 35 = .ok (.iload_n 0, 1) := by decide +kernel
theorem dJ6_bitCount_0f7a4_36 : decode cJ6_bitCount_0f7a4 36 = .ok (.bipush 8, 2) := by decide +kernel
theorem dJ6_bitCount_0f7a4_38 : decode cJ6_bitCount_0f7a4 38 = .ok (.iushr, 1) := by decide +kernel
theorem dJ6_bitCount_0f7a4_39 : decode cJ6_bitCount_0f7a4 39 = .ok (.iadd, 1) := by decide +kernel
theorem dJ6_bitCount_0f7a4_40 : decode cJ6_bitCount_0f7a4 40 = .ok (.istore_n 0, 1) := by decide +kernel
theorem dJ6_bitCount_0f7a4_41 : decode cJ6_bitCount_0f7a4 41 = .ok (.iload_n 0, 1) := by decide +kernel
theorem dJ6_bitCount_0f7a4_42 : decode cJ6_bitCount_0f7a4 42 = .ok (.iload_n 0, 1) := by decide +kernel
theorem dJ6_bitCount_0f7a4_43 : decode cJ6_bitCount_0f7a4 43 = .ok (.bipush 16, 2) := by decide +kernel
theorem dJ6_bitCount_0f7a4_45 : decode cJ6_bitCount_0f7a4 45 = .ok (.iushr, 1) := by decide +kernel
theorem dJ6_bitCount_0f7a4_46 : decode cJ6_bitCount_0f7a4 46 = .ok (.iadd, 1) := by decide +kernel
theorem dJ6_bitCount_0f7a4_47 : decode cJ6_bitCount_0f7a4 47 = .ok (.istore_n 0, 1) := by decide +kernel
theorem dJ6_bitCount_0f7a4_48 : decode cJ6_bitCount_0f7a4 48 = .ok (.iload_n 0, 1) := by decide +kernel
theorem dJ6_bitCount_0f7a4_49 : decode cJ6_bitCount_0f7a4 49 = .ok (.bipush 63, 2) := by decide +kernel
theorem dJ6_bitCount_0f7a4_51 : decode cJ6_bitCount_0f7a4 51 = .ok (.iand, 1) := by decide +kernel
theorem dJ6_bitCount_0f7a4_52 : decode cJ6_bitCount_0f7a4 52 = .ok (.ireturn, 1) := by decide +kernel
theorem dJ9_abs_0f7a4_0 : decode cJ9_abs_0f7a4 0 = .ok (.iload_n 0, 1) := by decide +kernel
theorem dJ9_abs_0f7a4_1 : decode cJ9_abs_0f7a4 1 = .ok (.ifCond .ge 8, 3) := by decide +kernel
theorem dJ9_abs_0f7a4_4 : decode cJ9_abs_0f7a4 4 = .ok (.iload_n 0, 1) := by decide +kernel
theorem dJ9_abs_0f7a4_5 : decode cJ9_abs_0f7a4 5 = .ok (.ineg, 1) := by decide +kernel
theorem dJ9_abs_0f7a4_6 : decode cJ9_abs_0f7a4 6 = .ok (.goto 4, 3) := by decide +kernel
theorem dJ9_abs_0f7a4_9 : decode cJ9_abs_0f7a4 9 = .ok (.iload_n 0, 1) := by decide +kernel
theorem dJ9_abs_0f7a4_10 : decode cJ9_abs_0f7a4 10 = .ok (.ireturn, 1) := by decide +kernel
theorem dJ9_max_7cf53_0 : decode cJ9_max_7cf53 0 = .ok (.iload_n 0, 1) := by decide +kernel
theorem dJ9_max_7cf53_1 : decode cJ9_max_7cf53 1 = .ok (.iload_n 1, 1) := by decide +kernel
theorem dJ9_max_7cf53_2 : decode cJ9_max_7cf53 2 = .ok (.if_icmp .lt 7, 3) := by decide +kernel
theorem dJ9_max_7cf53_5 : decode cJ9_max_7cf53 5 = .ok (.iload_n 0, 1) := by decide +kernel
theorem dJ9_max_7cf53_6 : decode cJ9_max_7cf53 6 = .ok (.goto 4, 3) := by decide +kernel
theorem dJ9_max_7cf53_9 : decode cJ9_max_7cf53 9 = .ok (.iload_n 1, 1) := by decide +kernel
theorem dJ9_max_7cf53_10 : decode cJ9_max_7cf53 10 = .ok (.ireturn, 1) := by decide +kernel
theorem dJ9_min_7cf53_0 : decode cJ9_min_7cf53 0 = .ok (.iload_n 0, 1) := by decide +kernel
theorem dJ9_min_7cf53_1 : decode cJ9_min_7cf53 1 = .ok (.iload_n 1, 1) := by decide +kernel
theorem dJ9_min_7cf53_2 : decode cJ9_min_7cf53 2 = .ok (.if_icmp .gt 7, 3) := by decide +kernel
theorem dJ9_min_7cf53_5 : decode cJ9_min_7cf53 5 = .ok (.iload_n 0, 1) := by decide +kernel
theorem dJ9_min_7cf53_6 : decode cJ9_min_7cf53 6 = .ok (.goto 4, 3) := by decide +kernel
theorem dJ9_min_7cf53_9 : decode cJ9_min_7cf53 9 = .ok (.iload_n 1, 1) := by decide +kernel
theorem dJ9_min_7cf53_10 : decode cJ9_min_7cf53 10 = .ok (.ireturn, 1) := by decide +kernel
