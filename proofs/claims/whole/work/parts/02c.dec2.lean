theorem dX1_prime_9 : decode cX1_prime 9 = .ok (.isub, 1) := by decide +kernel
theorem dX1_prime_10 : decode cX1_prime 10 = .ok (.i2l, 1) := by decide +kernel
theorem dX1_prime_11 : decode cX1_prime 11 = .ok (.invokestatic 34, 3) := by decide +kernel
theorem dX1_prime_14 : decode cX1_prime 14 = .ok (.ifCond .eq 7, 3) := by decide +kernel
theorem dX1_prime_17 : decode cX1_prime 17 = .ok (.iconst 0, 1) := by decide +kernel
theorem dX1_prime_18 : decode cX1_prime 18 = .ok (.goto 4, 3) := by decide +kernel
theorem dX1_prime_21 : decode cX1_prime 21 = .ok (.iconst 1, 1) := by decide +kernel
theorem dX1_prime_22 : decode cX1_prime 22 = .ok (.putfield 29, 3) := by decide +kernel
theorem dX1_prime_25 : decode cX1_prime 25 = .ok (.aload_n 0, 1) := by decide +kernel
theorem dX1_prime_26 : decode cX1_prime 26 = .ok (.getfield 29, 3) := by decide +kernel
theorem dX1_prime_29 : decode cX1_prime 29 = .ok (.ifCond .le 7, 3) := by decide +kernel
theorem dX1_prime_32 : decode cX1_prime 32 = .ok (.iconst 0, 1) := by decide +kernel
theorem dX1_prime_33 : decode cX1_prime 33 = .ok (.goto 9, 3) := by decide +kernel
theorem dX1_prime_36 : decode cX1_prime 36 = .ok (.aload_n 0, 1) := by decide +kernel
theorem dX1_prime_37 : decode cX1_prime 37 = .ok (.getfield 20, 3) := by decide +kernel
theorem dX1_prime_40 : decode cX1_prime 40 = .ok (.iload_n 1, 1) := by decide +kernel
theorem dX1_prime_41 : decode cX1_prime 41 = .ok (.iaload, 1) := by decide +kernel
theorem dX1_prime_42 : decode cX1_prime 42 = .ok (.ireturn, 1) := by decide +kernel
theorem dX1_exponent_0 : decode cX1_exponent 0 = .ok (.aload_n 0, 1) := by decide +kernel
theorem dX1_exponent_1 : decode cX1_exponent 1 = .ok (.iload_n 1, 1) := by decide +kernel
theorem dX1_exponent_2 : decode cX1_exponent 2 = .ok (.i2l, 1) := by decide +kernel
theorem dX1_exponent_3 : decode cX1_exponent 3 = .ok (.lconst 0, 1) := by decide +kernel
theorem dX1_exponent_4 : decode cX1_exponent 4 = .ok (.aload_n 0, 1) := by decide +kernel
theorem dX1_exponent_5 : decode cX1_exponent 5 = .ok (.getfield 41, 3) := by decide +kernel
theorem dX1_exponent_8 : decode cX1_exponent 8 = .ok (.iconst 1, 1) := by decide +kernel
theorem dX1_exponent_9 : decode cX1_exponent 9 = .ok (.isub, 1) := by decide +kernel
theorem dX1_exponent_10 : decode cX1_exponent 10 = .ok (.i2l, 1) := by decide +kernel
theorem dX1_exponent_11 : decode cX1_exponent 11 = .ok (.invokestatic 34, 3) := by decide +kernel
theorem dX1_exponent_14 : decode cX1_exponent 14 = .ok (.ifCond .eq 7, 3) := by decide +kernel
theorem dX1_exponent_17 : decode cX1_exponent 17 = .ok (.iconst 0, 1) := by decide +kernel
theorem dX1_exponent_18 : decode cX1_exponent 18 = .ok (.goto 4, 3) := by decide +kernel
theorem dX1_exponent_21 : decode cX1_exponent 21 = .ok (.iconst 1, 1) := by decide +kernel
theorem dX1_exponent_22 : decode cX1_exponent 22 = .ok (.putfield 29, 3) := by decide +kernel
theorem dX1_exponent_25 : decode cX1_exponent 25 = .ok (.aload_n 0, 1) := by decide +kernel
theorem dX1_exponent_26 : decode cX1_exponent 26 = .ok (.getfield 29, 3) := by decide +kernel
theorem dX1_exponent_29 : decode cX1_exponent 29 = .ok (.ifCond .le 7, 3) := by decide +kernel
theorem dX1_exponent_32 : decode cX1_exponent 32 = .ok (.iconst 0, 1) := by decide +kernel
theorem dX1_exponent_33 : decode cX1_exponent 33 = .ok (.goto 9, 3) := by decide +kernel
theorem dX1_exponent_36 : decode cX1_exponent 36 = .ok (.aload_n 0, 1) := by decide +kernel
theorem dX1_exponent_37 : decode cX1_exponent 37 = .ok (.getfield 23, 3) := by decide +kernel
theorem dX1_exponent_40 : decode cX1_exponent 40 = .ok (.iload_n 1, 1) := by decide +kernel
theorem dX1_exponent_41 : decode cX1_exponent 41 = .ok (.iaload, 1) := by decide +kernel
theorem dX1_exponent_42 : decode cX1_exponent 42 = .ok (.ireturn, 1) := by decide +kernel
theorem dX1_divisor_0 : decode cX1_divisor 0 = .ok (.aload_n 0, 1) := by decide +kernel
theorem dX1_divisor_1 : decode cX1_divisor 1 = .ok (.iload_n 1, 1) := by decide +kernel
theorem dX1_divisor_2 : decode cX1_divisor 2 = .ok (.i2l, 1) := by decide +kernel
theorem dX1_divisor_3 : decode cX1_divisor 3 = .ok (.lconst 0, 1) := by decide +kernel
theorem dX1_divisor_4 : decode cX1_divisor 4 = .ok (.aload_n 0, 1) := by decide +kernel
theorem dX1_divisor_5 : decode cX1_divisor 5 = .ok (.getfield 13, 3) := by decide +kernel
theorem dX1_divisor_8 : decode cX1_divisor 8 = .ok (.iconst 1, 1) := by decide +kernel
theorem dX1_divisor_9 : decode cX1_divisor 9 = .ok (.isub, 1) := by decide +kernel
theorem dX1_divisor_10 : decode cX1_divisor 10 = .ok (.i2l, 1) := by decide +kernel
theorem dX1_divisor_11 : decode cX1_divisor 11 = .ok (.invokestatic 34, 3) := by decide +kernel
theorem dX1_divisor_14 : decode cX1_divisor 14 = .ok (.ifCond .eq 7, 3) := by decide +kernel
theorem dX1_divisor_17 : decode cX1_divisor 17 = .ok (.iconst 0, 1) := by decide +kernel
theorem dX1_divisor_18 : decode cX1_divisor 18 = .ok (.goto 4, 3) := by decide +kernel
theorem dX1_divisor_21 : decode cX1_divisor 21 = .ok (.iconst 1, 1) := by decide +kernel
theorem dX1_divisor_22 : decode cX1_divisor 22 = .ok (.putfield 29, 3) := by decide +kernel
theorem dX1_divisor_25 : decode cX1_divisor 25 = .ok (.aload_n 0, 1) := by decide +kernel
theorem dX1_divisor_26 : decode cX1_divisor 26 = .ok (.getfield 29, 3) := by decide +kernel
theorem dX1_divisor_29 : decode cX1_divisor 29 = .ok (.ifCond .le 7, 3) := by decide +kernel
theorem dX1_divisor_32 : decode cX1_divisor 32 = .ok (.iconst 0, 1) := by decide +kernel
theorem dX1_divisor_33 : decode cX1_divisor 33 = .ok (.goto 9, 3) := by decide +kernel
theorem dX1_divisor_36 : decode cX1_divisor 36 = .ok (.aload_n 0, 1) := by decide +kernel
theorem dX1_divisor_37 : decode cX1_divisor 37 = .ok (.getfield 16, 3) := by decide +kernel
theorem dX1_divisor_40 : decode cX1_divisor 40 = .ok (.iload_n 1, 1) := by decide +kernel
theorem dX1_divisor_41 : decode cX1_divisor 41 = .ok (.iaload, 1) := by decide +kernel
theorem dX1_divisor_42 : decode cX1_divisor 42 = .ok (.ireturn, 1) := by decide +kernel
theorem dX1_isApart_0 : decode cX1_isApart 0 = .ok (.iconst 1, 1) := by decide +kernel
theorem dX1_isApart_1 : decode cX1_isApart 1 = .ok (.istore_n 2, 1) := by decide +kernel
theorem dX1_isApart_2 : decode cX1_isApart 2 = .ok (.iconst 0, 1) := by decide +kernel
theorem dX1_isApart_3 : decode cX1_isApart 3 = .ok (.istore_n 3, 1) := by decide +kernel
theorem dX1_isApart_4 : decode cX1_isApart 4 = .ok (.iload_n 3, 1) := by decide +kernel
theorem dX1_isApart_5 : decode cX1_isApart 5 = .ok (.aload_n 0, 1) := by decide +kernel
theorem dX1_isApart_6 : decode cX1_isApart 6 = .ok (.getfield 41, 3) := by decide +kernel
theorem dX1_isApart_9 : decode cX1_isApart 9 = .ok (.if_icmp .ge 30, 3) := by decide +kernel
theorem dX1_isApart_12 : decode cX1_isApart 12 = .ok (.iload_n 2, 1) := by decide +kernel
theorem dX1_isApart_13 : decode cX1_isApart 13 = .ok (.ifCond .eq 18, 3) := by decide +kernel
theorem dX1_isApart_16 : decode cX1_isApart 16 = .ok (.iload_n 1, 1) := by decide +kernel
theorem dX1_isApart_17 : decode cX1_isApart 17 = .ok (.aload_n 0, 1) := by decide +kernel
theorem dX1_isApart_18 : decode cX1_isApart 18 = .ok (.getfield 20, 3) := by decide +kernel
theorem dX1_isApart_21 : decode cX1_isApart 21 = .ok (.iload_n 3, 1) := by decide +kernel
theorem dX1_isApart_22 : decode cX1_isApart 22 = .ok (.iaload, 1) := by decide +kernel
theorem dX1_isApart_23 : decode cX1_isApart 23 = .ok (.irem, 1) := by decide +kernel
theorem dX1_isApart_24 : decode cX1_isApart 24 = .ok (.ifCond .eq 7, 3) := by decide +kernel
theorem dX1_isApart_27 : decode cX1_isApart 27 = .ok (.iconst 1, 1) := by decide +kernel
theorem dX1_isApart_28 : decode cX1_isApart 28 = .ok (.goto 4, 3) := by decide +kernel
theorem dX1_isApart_31 : decode cX1_isApart 31 = .ok (.iconst 0, 1) := by decide +kernel
theorem dX1_isApart_32 : decode cX1_isApart 32 = .ok (.istore_n 2, 1) := by decide +kernel
theorem dX1_isApart_33 : decode cX1_isApart 33 = .ok (.iinc 3 1, 3) := by decide +kernel
theorem dX1_isApart_36 : decode cX1_isApart 36 = .ok (.goto (-32), 3) := by decide +kernel
theorem dX1_isApart_39 : decode cX1_isApart 39 = .ok (.iload_n 2, 1) := by decide +kernel
theorem dX1_isApart_40 : decode cX1_isApart 40 = .ok (.ireturn, 1) := by decide +kernel
theorem dX1_apart_0 : decode cX1_apart 0 = .ok (.iconst 0, 1) := by decide +kernel
theorem dX1_apart_1 : decode cX1_apart 1 = .ok (.istore_n 1, 1) := by decide +kernel
theorem dX1_apart_2 : decode cX1_apart 2 = .ok (.iconst 1, 1) := by decide +kernel
theorem dX1_apart_3 : decode cX1_apart 3 = .ok (.istore_n 2, 1) := by decide +kernel
theorem dX1_apart_4 : decode cX1_apart 4 = .ok (.iload_n 2, 1) := by decide +kernel
theorem dX1_apart_5 : decode cX1_apart 5 = .ok (.aload_n 0, 1) := by decide +kernel
theorem dX1_apart_6 : decode cX1_apart 6 = .ok (.getfield 7, 3) := by decide +kernel
theorem dX1_apart_9 : decode cX1_apart 9 = .ok (.if_icmp .gt 25, 3) := by decide +kernel
theorem dX1_apart_12 : decode cX1_apart 12 = .ok (.iload_n 1, 1) := by decide +kernel
theorem dX1_apart_13 : decode cX1_apart 13 = .ok (.aload_n 0, 1) := by decide +kernel
theorem dX1_apart_14 : decode cX1_apart 14 = .ok (.iload_n 2, 1) := by decide +kernel
theorem dX1_apart_15 : decode cX1_apart 15 = .ok (.invokevirtual 48, 3) := by decide +kernel
theorem dX1_apart_18 : decode cX1_apart 18 = .ok (.ifCond .eq 7, 3) := by decide +kernel
theorem dX1_apart_21 : decode cX1_apart 21 = .ok (.iconst 1, 1) := by decide +kernel
theorem dX1_apart_22 : decode cX1_apart 22 = .ok (.goto 4, 3) := by decide +kernel
theorem dX1_apart_25 : decode cX1_apart 25 = .ok (.iconst 0, 1) := by decide +kernel
theorem dX1_apart_26 : decode cX1_apart 26 = .ok (.iadd, 1) := by decide +kernel
theorem dX1_apart_27 : decode cX1_apart 27 = .ok (.istore_n 1, 1) := by decide +kernel
theorem dX1_apart_28 : decode cX1_apart 28 = .ok (.iinc 2 1, 3) := by decide +kernel
theorem dX1_apart_31 : decode cX1_apart 31 = .ok (.goto (-27), 3) := by decide +kernel
theorem dX1_apart_34 : decode cX1_apart 34 = .ok (.iload_n 1, 1) := by decide +kernel
theorem dX1_apart_35 : decode cX1_apart 35 = .ok (.ireturn, 1) := by decide +kernel
theorem dX1_square_0 : decode cX1_square 0 = .ok (.iconst 1, 1) := by decide +kernel
theorem dX1_square_1 : decode cX1_square 1 = .ok (.istore_n 1, 1) := by decide +kernel
theorem dX1_square_2 : decode cX1_square 2 = .ok (.iconst 0, 1) := by decide +kernel
theorem dX1_square_3 : decode cX1_square 3 = .ok (.istore_n 2, 1) := by decide +kernel
theorem dX1_square_4 : decode cX1_square 4 = .ok (.iload_n 2, 1) := by decide +kernel
theorem dX1_square_5 : decode cX1_square 5 = .ok (.aload_n 0, 1) := by decide +kernel
theorem dX1_square_6 : decode cX1_square 6 = .ok (.getfield 13, 3) := by decide +kernel
theorem dX1_square_9 : decode cX1_square 9 = .ok (.if_icmp .ge 42, 3) := by decide +kernel
theorem dX1_square_12 : decode cX1_square 12 = .ok (.aload_n 0, 1) := by decide +kernel
theorem dX1_square_13 : decode cX1_square 13 = .ok (.getfield 7, 3) := by decide +kernel
theorem dX1_square_16 : decode cX1_square 16 = .ok (.i2l, 1) := by decide +kernel
theorem dX1_square_17 : decode cX1_square 17 = .ok (.aload_n 0, 1) := by decide +kernel
theorem dX1_square_18 : decode cX1_square 18 = .ok (.getfield 16, 3) := by decide +kernel
theorem dX1_square_21 : decode cX1_square 21 = .ok (.iload_n 2, 1) := by decide +kernel
theorem dX1_square_22 : decode cX1_square 22 = .ok (.iaload, 1) := by decide +kernel
theorem dX1_square_23 : decode cX1_square 23 = .ok (.i2l, 1) := by decide +kernel
theorem dX1_square_24 : decode cX1_square 24 = .ok (.aload_n 0, 1) := by decide +kernel
theorem dX1_square_25 : decode cX1_square 25 = .ok (.getfield 16, 3) := by decide +kernel
theorem dX1_square_28 : decode cX1_square 28 = .ok (.iload_n 2, 1) := by decide +kernel
theorem dX1_square_29 : decode cX1_square 29 = .ok (.iaload, 1) := by decide +kernel
theorem dX1_square_30 : decode cX1_square 30 = .ok (.i2l, 1) := by decide +kernel
theorem dX1_square_31 : decode cX1_square 31 = .ok (.lmul, 1) := by decide +kernel
theorem dX1_square_32 : decode cX1_square 32 = .ok (.lrem, 1) := by decide +kernel
theorem dX1_square_33 : decode cX1_square 33 = .ok (.lconst 0, 1) := by decide +kernel
theorem dX1_square_34 : decode cX1_square 34 = .ok (.lcmp, 1) := by decide +kernel
theorem dX1_square_35 : decode cX1_square 35 = .ok (.ifCond .ne 10, 3) := by decide +kernel
theorem dX1_square_38 : decode cX1_square 38 = .ok (.aload_n 0, 1) := by decide +kernel
theorem dX1_square_39 : decode cX1_square 39 = .ok (.getfield 16, 3) := by decide +kernel
theorem dX1_square_42 : decode cX1_square 42 = .ok (.iload_n 2, 1) := by decide +kernel
theorem dX1_square_43 : decode cX1_square 43 = .ok (.iaload, 1) := by decide +kernel
theorem dX1_square_44 : decode cX1_square 44 = .ok (.istore_n 1, 1) := by decide +kernel
theorem dX1_square_45 : decode cX1_square 45 = .ok (.iinc 2 1, 3) := by decide +kernel
theorem dX1_square_48 : decode cX1_square 48 = .ok (.goto (-44), 3) := by decide +kernel
theorem dX1_square_51 : decode cX1_square 51 = .ok (.iload_n 1, 1) := by decide +kernel
theorem dX1_square_52 : decode cX1_square 52 = .ok (.ireturn, 1) := by decide +kernel
theorem dX1_count_0 : decode cX1_count 0 = .ok (.aload_n 0, 1) := by decide +kernel
theorem dX1_count_1 : decode cX1_count 1 = .ok (.iconst 0, 1) := by decide +kernel
theorem dX1_count_2 : decode cX1_count 2 = .ok (.putfield 29, 3) := by decide +kernel
theorem dX1_count_5 : decode cX1_count 5 = .ok (.iload_n 1, 1) := by decide +kernel
theorem dX1_count_6 : decode cX1_count 6 = .ok (.tableswitch 68 0 5 #[38, 43, 48, 53, 58, 63], 38) := by decide +kernel
theorem dX1_count_44 : decode cX1_count 44 = .ok (.aload_n 0, 1) := by decide +kernel
theorem dX1_count_45 : decode cX1_count 45 = .ok (.getfield 7, 3) := by decide +kernel
theorem dX1_count_48 : decode cX1_count 48 = .ok (.ireturn, 1) := by decide +kernel
theorem dX1_count_49 : decode cX1_count 49 = .ok (.aload_n 0, 1) := by decide +kernel
theorem dX1_count_50 : decode cX1_count 50 = .ok (.getfield 41, 3) := by decide +kernel
theorem dX1_count_53 : decode cX1_count 53 = .ok (.ireturn, 1) := by decide +kernel
theorem dX1_count_54 : decode cX1_count 54 = .ok (.aload_n 0, 1) := by decide +kernel
theorem dX1_count_55 : decode cX1_count 55 = .ok (.getfield 13, 3) := by decide +kernel
theorem dX1_count_58 : decode cX1_count 58 = .ok (.ireturn, 1) := by decide +kernel
theorem dX1_count_59 : decode cX1_count 59 = .ok (.aload_n 0, 1) := by decide +kernel
theorem dX1_count_60 : decode cX1_count 60 = .ok (.invokevirtual 51, 3) := by decide +kernel
theorem dX1_count_63 : decode cX1_count 63 = .ok (.ireturn, 1) := by decide +kernel
theorem dX1_count_64 : decode cX1_count 64 = .ok (.aload_n 0, 1) := by decide +kernel
theorem dX1_count_65 : decode cX1_count 65 = .ok (.invokevirtual 55, 3) := by decide +kernel
theorem dX1_count_68 : decode cX1_count 68 = .ok (.ireturn, 1) := by decide +kernel
theorem dX1_count_69 : decode cX1_count 69 = .ok (.aload_n 0, 1) := by decide +kernel
theorem dX1_count_70 : decode cX1_count 70 = .ok (.getfield 38, 3) := by decide +kernel
theorem dX1_count_73 : decode cX1_count 73 = .ok (.ireturn, 1) := by decide +kernel
theorem dX1_count_74 : decode cX1_count 74 = .ok (.iconst (-1), 1) := by decide +kernel
theorem dX1_count_75 : decode cX1_count 75 = .ok (.ireturn, 1) := by decide +kernel
theorem dX1_symbol_0 : decode cX1_symbol 0 = .ok (.lload_n 0, 1) := by decide +kernel
theorem dX1_symbol_1 : decode cX1_symbol 1 = .ok (.iload_n 2, 1) := by decide +kernel
theorem dX1_symbol_2 : decode cX1_symbol 2 = .ok (.i2l, 1) := by decide +kernel
theorem dX1_symbol_3 : decode cX1_symbol 3 = .ok (.invokestatic 58, 3) := by decide +kernel
theorem dX1_symbol_6 : decode cX1_symbol 6 = .ok (.lstore_n 3, 1) := by decide +kernel
theorem dX1_symbol_7 : decode cX1_symbol 7 = .ok (.lload_n 3, 1) := by decide +kernel
theorem dX1_symbol_8 : decode cX1_symbol 8 = .ok (.lconst 0, 1) := by decide +kernel
theorem dX1_symbol_9 : decode cX1_symbol 9 = .ok (.lcmp, 1) := by decide +kernel
theorem dX1_symbol_10 : decode cX1_symbol 10 = .ok (.ifCond .ne 5, 3) := by decide +kernel
theorem dX1_symbol_13 : decode cX1_symbol 13 = .ok (.iconst 0, 1) := by decide +kernel
theorem dX1_symbol_14 : decode cX1_symbol 14 = .ok (.ireturn, 1) := by decide +kernel
theorem dX1_symbol_15 : decode cX1_symbol 15 = .ok (.lconst 1, 1) := by decide +kernel
theorem dX1_symbol_16 : decode cX1_symbol 16 = .ok (.lstore 5, 2) := by decide +kernel
theorem dX1_symbol_18 : decode cX1_symbol 18 = .ok (.iconst 1, 1) := by decide +kernel
theorem dX1_symbol_19 : decode cX1_symbol 19 = .ok (.istore 7, 2) := by decide +kernel
theorem dX1_symbol_21 : decode cX1_symbol 21 = .ok (.iload 7, 2) := by decide +kernel
theorem dX1_symbol_23 : decode cX1_symbol 23 = .ok (.iload_n 2, 1) := by decide +kernel
theorem dX1_symbol_24 : decode cX1_symbol 24 = .ok (.iconst 2, 1) := by decide +kernel
theorem dX1_symbol_25 : decode cX1_symbol 25 = .ok (.idiv, 1) := by decide +kernel
theorem dX1_symbol_26 : decode cX1_symbol 26 = .ok (.if_icmp .gt 35, 3) := by decide +kernel
theorem dX1_symbol_29 : decode cX1_symbol 29 = .ok (.lload 5, 2) := by decide +kernel
theorem dX1_symbol_31 : decode cX1_symbol 31 = .ok (.lload_n 3, 1) := by decide +kernel
theorem dX1_symbol_32 : decode cX1_symbol 32 = .ok (.lcmp, 1) := by decide +kernel
theorem dX1_symbol_33 : decode cX1_symbol 33 = .ok (.ifCond .ne 5, 3) := by decide +kernel
theorem dX1_symbol_36 : decode cX1_symbol 36 = .ok (.iconst 1, 1) := by decide +kernel
theorem dX1_symbol_37 : decode cX1_symbol 37 = .ok (.ireturn, 1) := by decide +kernel
theorem dX1_symbol_38 : decode cX1_symbol 38 = .ok (.lload 5, 2) := by decide +kernel
theorem dX1_symbol_40 : decode cX1_symbol 40 = .ok (.ldc2_w 62, 3) := by decide +kernel
theorem dX1_symbol_43 : decode cX1_symbol 43 = .ok (.iload 7, 2) := by decide +kernel
theorem dX1_symbol_45 : decode cX1_symbol 45 = .ok (.i2l, 1) := by decide +kernel
theorem dX1_symbol_46 : decode cX1_symbol 46 = .ok (.lmul, 1) := by decide +kernel
theorem dX1_symbol_47 : decode cX1_symbol 47 = .ok (.ladd, 1) := by decide +kernel
theorem dX1_symbol_48 : decode cX1_symbol 48 = .ok (.lconst 1, 1) := by decide +kernel
theorem dX1_symbol_49 : decode cX1_symbol 49 = .ok (.ladd, 1) := by decide +kernel
theorem dX1_symbol_50 : decode cX1_symbol 50 = .ok (.iload_n 2, 1) := by decide +kernel
theorem dX1_symbol_51 : decode cX1_symbol 51 = .ok (.i2l, 1) := by decide +kernel
theorem dX1_symbol_52 : decode cX1_symbol 52 = .ok (.lrem, 1) := by decide +kernel
theorem dX1_symbol_53 : decode cX1_symbol 53 = .ok (.lstore 5, 2) := by decide +kernel
theorem dX1_symbol_55 : decode cX1_symbol 55 = .ok (.iinc 7 1, 3) := by decide +kernel
theorem dX1_symbol_58 : decode cX1_symbol 58 = .ok (.goto (-37), 3) := by decide +kernel
theorem dX1_symbol_61 : decode cX1_symbol 61 = .ok (.iconst (-1), 1) := by decide +kernel
theorem dX1_symbol_62 : decode cX1_symbol 62 = .ok (.ireturn, 1) := by decide +kernel
theorem dX1_symbolOfTwo_0 : decode cX1_symbolOfTwo 0 = .ok (.lload_n 0, 1) := by decide +kernel
theorem dX1_symbolOfTwo_1 : decode cX1_symbolOfTwo 1 = .ok (.ldc2_w 64, 3) := by decide +kernel
theorem dX1_symbolOfTwo_4 : decode cX1_symbolOfTwo 4 = .ok (.invokestatic 58, 3) := by decide +kernel
theorem dX1_symbolOfTwo_7 : decode cX1_symbolOfTwo 7 = .ok (.lstore_n 2, 1) := by decide +kernel
theorem dX1_symbolOfTwo_8 : decode cX1_symbolOfTwo 8 = .ok (.lload_n 2, 1) := by decide +kernel
theorem dX1_symbolOfTwo_9 : decode cX1_symbolOfTwo 9 = .ok (.ldc2_w 62, 3) := by decide +kernel
theorem dX1_symbolOfTwo_12 : decode cX1_symbolOfTwo 12 = .ok (.lrem, 1) := by decide +kernel
theorem dX1_symbolOfTwo_13 : decode cX1_symbolOfTwo 13 = .ok (.lconst 0, 1) := by decide +kernel
theorem dX1_symbolOfTwo_14 : decode cX1_symbolOfTwo 14 = .ok (.lcmp, 1) := by decide +kernel
theorem dX1_symbolOfTwo_15 : decode cX1_symbolOfTwo 15 = .ok (.ifCond .ne 7, 3) := by decide +kernel
theorem dX1_symbolOfTwo_18 : decode cX1_symbolOfTwo 18 = .ok (.iconst 0, 1) := by decide +kernel
theorem dX1_symbolOfTwo_19 : decode cX1_symbolOfTwo 19 = .ok (.goto 22, 3) := by decide +kernel
theorem dX1_symbolOfTwo_22 : decode cX1_symbolOfTwo 22 = .ok (.lload_n 2, 1) := by decide +kernel
theorem dX1_symbolOfTwo_23 : decode cX1_symbolOfTwo 23 = .ok (.lconst 1, 1) := by decide +kernel
theorem dX1_symbolOfTwo_24 : decode cX1_symbolOfTwo 24 = .ok (.lcmp, 1) := by decide +kernel
theorem dX1_symbolOfTwo_25 : decode cX1_symbolOfTwo 25 = .ok (.ifCond .eq 11, 3) := by decide +kernel
theorem dX1_symbolOfTwo_28 : decode cX1_symbolOfTwo 28 = .ok (.lload_n 2, 1) := by decide +kernel
theorem dX1_symbolOfTwo_29 : decode cX1_symbolOfTwo 29 = .ok (.ldc2_w 66, 3) := by decide +kernel
theorem dX1_symbolOfTwo_32 : decode cX1_symbolOfTwo 32 = .ok (.lcmp, 1) := by decide +kernel
theorem dX1_symbolOfTwo_33 : decode cX1_symbolOfTwo 33 = .ok (.ifCond .ne 7, 3) := by decide +kernel
theorem dX1_symbolOfTwo_36 : decode cX1_symbolOfTwo 36 = .ok (.iconst 1, 1) := by decide +kernel
theorem dX1_symbolOfTwo_37 : decode cX1_symbolOfTwo 37 = .ok (.goto 4, 3) := by decide +kernel
theorem dX1_symbolOfTwo_40 : decode cX1_symbolOfTwo 40 = .ok (.iconst (-1), 1) := by decide +kernel
theorem dX1_symbolOfTwo_41 : decode cX1_symbolOfTwo 41 = .ok (.ireturn, 1) := by decide +kernel
theorem dX1_kronecker_0 : decode cX1_kronecker 0 = .ok (.aload_n 0, 1) := by decide +kernel
theorem dX1_kronecker_1 : decode cX1_kronecker 1 = .ok (.iload_n 3, 1) := by decide +kernel
theorem dX1_kronecker_2 : decode cX1_kronecker 2 = .ok (.i2l, 1) := by decide +kernel
theorem dX1_kronecker_3 : decode cX1_kronecker 3 = .ok (.ldc2_w 68, 3) := by decide +kernel
theorem dX1_kronecker_6 : decode cX1_kronecker 6 = .ok (.ldc2_w 32, 3) := by decide +kernel
theorem dX1_kronecker_9 : decode cX1_kronecker 9 = .ok (.invokestatic 34, 3) := by decide +kernel
theorem dX1_kronecker_12 : decode cX1_kronecker 12 = .ok (.ifCond .eq 7, 3) := by decide +kernel
theorem dX1_kronecker_15 : decode cX1_kronecker 15 = .ok (.iconst 0, 1) := by decide +kernel
theorem dX1_kronecker_16 : decode cX1_kronecker 16 = .ok (.goto 4, 3) := by decide +kernel
theorem dX1_kronecker_19 : decode cX1_kronecker 19 = .ok (.iconst 1, 1) := by decide +kernel
theorem dX1_kronecker_20 : decode cX1_kronecker 20 = .ok (.putfield 29, 3) := by decide +kernel
theorem dX1_kronecker_23 : decode cX1_kronecker 23 = .ok (.aload_n 0, 1) := by decide +kernel
theorem dX1_kronecker_24 : decode cX1_kronecker 24 = .ok (.getfield 29, 3) := by decide +kernel
theorem dX1_kronecker_27 : decode cX1_kronecker 27 = .ok (.ifCond .le 5, 3) := by decide +kernel
theorem dX1_kronecker_30 : decode cX1_kronecker 30 = .ok (.iconst 0, 1) := by decide +kernel
theorem dX1_kronecker_31 : decode cX1_kronecker 31 = .ok (.ireturn, 1) := by decide +kernel
theorem dX1_kronecker_32 : decode cX1_kronecker 32 = .ok (.iload_n 3, 1) := by decide +kernel
theorem dX1_kronecker_33 : decode cX1_kronecker 33 = .ok (.ifCond .ne 23, 3) := by decide +kernel
theorem dX1_kronecker_36 : decode cX1_kronecker 36 = .ok (.lload_n 1, 1) := by decide +kernel
theorem dX1_kronecker_37 : decode cX1_kronecker 37 = .ok (.lconst 1, 1) := by decide +kernel
theorem dX1_kronecker_38 : decode cX1_kronecker 38 = .ok (.lcmp, 1) := by decide +kernel
theorem dX1_kronecker_39 : decode cX1_kronecker 39 = .ok (.ifCond .eq 11, 3) := by decide +kernel
theorem dX1_kronecker_42 : decode cX1_kronecker 42 = .ok (.lload_n 1, 1) := by decide +kernel
theorem dX1_kronecker_43 : decode cX1_kronecker 43 = .ok (.ldc2_w 70, 3) := by decide +kernel
theorem dX1_kronecker_46 : decode cX1_kronecker 46 = .ok (.lcmp, 1) := by decide +kernel
theorem dX1_kronecker_47 : decode cX1_kronecker 47 = .ok (.ifCond .ne 7, 3) := by decide +kernel
theorem dX1_kronecker_50 : decode cX1_kronecker 50 = .ok (.iconst 1, 1) := by decide +kernel
theorem dX1_kronecker_51 : decode cX1_kronecker 51 = .ok (.goto 4, 3) := by decide +kernel
theorem dX1_kronecker_54 : decode cX1_kronecker 54 = .ok (.iconst 0, 1) := by decide +kernel
theorem dX1_kronecker_55 : decode cX1_kronecker 55 = .ok (.ireturn, 1) := by decide +kernel
theorem dX1_kronecker_56 : decode cX1_kronecker 56 = .ok (.iload_n 3, 1) := by decide +kernel
theorem dX1_kronecker_57 : decode cX1_kronecker 57 = .ok (.ifCond .ge 13, 3) := by decide +kernel
theorem dX1_kronecker_60 : decode cX1_kronecker 60 = .ok (.lload_n 1, 1) := by decide +kernel
theorem dX1_kronecker_61 : decode cX1_kronecker 61 = .ok (.lconst 0, 1) := by decide +kernel
theorem dX1_kronecker_62 : decode cX1_kronecker 62 = .ok (.lcmp, 1) := by decide +kernel
theorem dX1_kronecker_63 : decode cX1_kronecker 63 = .ok (.ifCond .ge 7, 3) := by decide +kernel
theorem dX1_kronecker_66 : decode cX1_kronecker 66 = .ok (.iconst (-1), 1) := by decide +kernel
theorem dX1_kronecker_67 : decode cX1_kronecker 67 = .ok (.goto 4, 3) := by decide +kernel
theorem dX1_kronecker_70 : decode cX1_kronecker 70 = .ok (.iconst 1, 1) := by decide +kernel
theorem dX1_kronecker_71 : decode cX1_kronecker 71 = .ok (.istore 4, 2) := by decide +kernel
theorem dX1_kronecker_73 : decode cX1_kronecker 73 = .ok (.iload_n 3, 1) := by decide +kernel
theorem dX1_kronecker_74 : decode cX1_kronecker 74 = .ok (.ifCond .ge 8, 3) := by decide +kernel
theorem dX1_kronecker_77 : decode cX1_kronecker 77 = .ok (.iload_n 3, 1) := by decide +kernel
theorem dX1_kronecker_78 : decode cX1_kronecker 78 = .ok (.ineg, 1) := by decide +kernel
theorem dX1_kronecker_79 : decode cX1_kronecker 79 = .ok (.goto 4, 3) := by decide +kernel
theorem dX1_kronecker_82 : decode cX1_kronecker 82 = .ok (.iload_n 3, 1) := by decide +kernel
theorem dX1_kronecker_83 : decode cX1_kronecker 83 = .ok (.istore 5, 2) := by decide +kernel
theorem dX1_kronecker_85 : decode cX1_kronecker 85 = .ok (.iconst 2, 1) := by decide +kernel
theorem dX1_kronecker_86 : decode cX1_kronecker 86 = .ok (.istore 6, 2) := by decide +kernel
theorem dX1_kronecker_88 : decode cX1_kronecker 88 = .ok (.iload 5, 2) := by decide +kernel
theorem dX1_kronecker_90 : decode cX1_kronecker 90 = .ok (.iconst 1, 1) := by decide +kernel
theorem dX1_kronecker_91 : decode cX1_kronecker 91 = .ok (.if_icmp .le 51, 3) := by decide +kernel
theorem dX1_kronecker_94 : decode cX1_kronecker 94 = .ok (.iload 5, 2) := by decide +kernel
theorem dX1_kronecker_96 : decode cX1_kronecker 96 = .ok (.iload 6, 2) := by decide +kernel
theorem dX1_kronecker_98 : decode cX1_kronecker 98 = .ok (.irem, 1) := by decide +kernel
theorem dX1_kronecker_99 : decode cX1_kronecker 99 = .ok (.ifCond .ne 37, 3) := by decide +kernel
theorem dX1_kronecker_102 : decode cX1_kronecker 102 = .ok (.iload 4, 2) := by decide +kernel
theorem dX1_kronecker_104 : decode cX1_kronecker 104 = .ok (.iload 6, 2) := by decide +kernel
theorem dX1_kronecker_106 : decode cX1_kronecker 106 = .ok (.iconst 2, 1) := by decide +kernel
theorem dX1_kronecker_107 : decode cX1_kronecker 107 = .ok (.if_icmp .ne 10, 3) := by decide +kernel
theorem dX1_kronecker_110 : decode cX1_kronecker 110 = .ok (.lload_n 1, 1) := by decide +kernel
theorem dX1_kronecker_111 : decode cX1_kronecker 111 = .ok (.invokestatic 72, 3) := by decide +kernel
theorem dX1_kronecker_114 : decode cX1_kronecker 114 = .ok (.goto 9, 3) := by decide +kernel
theorem dX1_kronecker_117 : decode cX1_kronecker 117 = .ok (.lload_n 1, 1) := by decide +kernel
theorem dX1_kronecker_118 : decode cX1_kronecker 118 = .ok (.iload 6, 2) := by decide +kernel
theorem dX1_kronecker_120 : decode cX1_kronecker 120 = .ok (.invokestatic 76, 3) := by decide +kernel
theorem dX1_kronecker_123 : decode cX1_kronecker 123 = .ok (.imul, 1) := by decide +kernel
theorem dX1_kronecker_124 : decode cX1_kronecker 124 = .ok (.istore 4, 2) := by decide +kernel
theorem dX1_kronecker_126 : decode cX1_kronecker 126 = .ok (.iload 5, 2) := by decide +kernel
theorem dX1_kronecker_128 : decode cX1_kronecker 128 = .ok (.iload 6, 2) := by decide +kernel
theorem dX1_kronecker_130 : decode cX1_kronecker 130 = .ok (.idiv, 1) := by decide +kernel
theorem dX1_kronecker_131 : decode cX1_kronecker 131 = .ok (.istore 5, 2) := by decide +kernel
theorem dX1_kronecker_133 : decode cX1_kronecker 133 = .ok (.goto (-39), 3) := by decide +kernel
theorem dX1_kronecker_136 : decode cX1_kronecker 136 = .ok (.iinc 6 1, 3) := by decide +kernel
theorem dX1_kronecker_139 : decode cX1_kronecker 139 = .ok (.goto (-51), 3) := by decide +kernel
theorem dX1_kronecker_142 : decode cX1_kronecker 142 = .ok (.iload 4, 2) := by decide +kernel
theorem dX1_kronecker_144 : decode cX1_kronecker 144 = .ok (.ireturn, 1) := by decide +kernel
theorem dX1_times_0 : decode cX1_times 0 = .ok (.lload_n 1, 1) := by decide +kernel
theorem dX1_times_1 : decode cX1_times 1 = .ok (.lload_n 3, 1) := by decide +kernel
theorem dX1_times_2 : decode cX1_times 2 = .ok (.lmul, 1) := by decide +kernel
theorem dX1_times_3 : decode cX1_times 3 = .ok (.aload_n 0, 1) := by decide +kernel
theorem dX1_times_4 : decode cX1_times 4 = .ok (.getfield 7, 3) := by decide +kernel
theorem dX1_times_7 : decode cX1_times 7 = .ok (.i2l, 1) := by decide +kernel
theorem dX1_times_8 : decode cX1_times 8 = .ok (.lrem, 1) := by decide +kernel
theorem dX1_times_9 : decode cX1_times 9 = .ok (.lreturn, 1) := by decide +kernel
theorem dX1_power_0 : decode cX1_power 0 = .ok (.aload_n 0, 1) := by decide +kernel
theorem dX1_power_1 : decode cX1_power 1 = .ok (.lload_n 3, 1) := by decide +kernel
theorem dX1_power_2 : decode cX1_power 2 = .ok (.lconst 0, 1) := by decide +kernel
theorem dX1_power_3 : decode cX1_power 3 = .ok (.lcmp, 1) := by decide +kernel
theorem dX1_power_4 : decode cX1_power 4 = .ok (.ifCond .ge 7, 3) := by decide +kernel
theorem dX1_power_7 : decode cX1_power 7 = .ok (.iconst 1, 1) := by decide +kernel
theorem dX1_power_8 : decode cX1_power 8 = .ok (.goto 4, 3) := by decide +kernel
theorem dX1_power_11 : decode cX1_power 11 = .ok (.iconst 0, 1) := by decide +kernel
theorem dX1_power_12 : decode cX1_power 12 = .ok (.putfield 29, 3) := by decide +kernel
theorem dX1_power_15 : decode cX1_power 15 = .ok (.aload_n 0, 1) := by decide +kernel
theorem dX1_power_16 : decode cX1_power 16 = .ok (.getfield 29, 3) := by decide +kernel
theorem dX1_power_19 : decode cX1_power 19 = .ok (.ifCond .le 5, 3) := by decide +kernel
theorem dX1_power_22 : decode cX1_power 22 = .ok (.iconst 0, 1) := by decide +kernel
theorem dX1_power_23 : decode cX1_power 23 = .ok (.ireturn, 1) := by decide +kernel
theorem dX1_power_24 : decode cX1_power 24 = .ok (.lload_n 1, 1) := by decide +kernel
theorem dX1_power_25 : decode cX1_power 25 = .ok (.aload_n 0, 1) := by decide +kernel
theorem dX1_power_26 : decode cX1_power 26 = .ok (.getfield 7, 3) := by decide +kernel
theorem dX1_power_29 : decode cX1_power 29 = .ok (.i2l, 1) := by decide +kernel
theorem dX1_power_30 : decode cX1_power 30 = .ok (.invokestatic 58, 3) := by decide +kernel
theorem dX1_power_33 : decode cX1_power 33 = .ok (.lstore 5, 2) := by decide +kernel
theorem dX1_power_35 : decode cX1_power 35 = .ok (.lconst 1, 1) := by decide +kernel
theorem dX1_power_36 : decode cX1_power 36 = .ok (.lstore 7, 2) := by decide +kernel
theorem dX1_power_38 : decode cX1_power 38 = .ok (.lload_n 3, 1) := by decide +kernel
theorem dX1_power_39 : decode cX1_power 39 = .ok (.lload 7, 2) := by decide +kernel
theorem dX1_power_41 : decode cX1_power 41 = .ok (.ldiv, 1) := by decide +kernel
theorem dX1_power_42 : decode cX1_power 42 = .ok (.ldc2_w 80, 3) := by decide +kernel
theorem dX1_power_45 : decode cX1_power 45 = .ok (.lcmp, 1) := by decide +kernel
theorem dX1_power_46 : decode cX1_power 46 = .ok (.ifCond .le 14, 3) := by decide +kernel
theorem dX1_power_49 : decode cX1_power 49 = .ok (.lload 7, 2) := by decide +kernel
theorem dX1_power_51 : decode cX1_power 51 = .ok (.ldc2_w 82, 3) := by decide +kernel
theorem dX1_power_54 : decode cX1_power 54 = .ok (.lmul, 1) := by decide +kernel
theorem dX1_power_55 : decode cX1_power 55 = .ok (.lstore 7, 2) := by decide +kernel
theorem dX1_power_57 : decode cX1_power 57 = .ok (.goto (-19), 3) := by decide +kernel
theorem dX1_power_60 : decode cX1_power 60 = .ok (.lconst 1, 1) := by decide +kernel
theorem dX1_power_61 : decode cX1_power 61 = .ok (.aload_n 0, 1) := by decide +kernel
theorem dX1_power_62 : decode cX1_power 62 = .ok (.getfield 7, 3) := by decide +kernel
theorem dX1_power_65 : decode cX1_power 65 = .ok (.i2l, 1) := by decide +kernel
theorem dX1_power_66 : decode cX1_power 66 = .ok (.lrem, 1) := by decide +kernel
theorem dX1_power_67 : decode cX1_power 67 = .ok (.lstore 9, 2) := by decide +kernel
theorem dX1_power_69 : decode cX1_power 69 = .ok (.lload 7, 2) := by decide +kernel
theorem dX1_power_71 : decode cX1_power 71 = .ok (.lconst 0, 1) := by decide +kernel
theorem dX1_power_72 : decode cX1_power 72 = .ok (.lcmp, 1) := by decide +kernel
theorem dX1_power_73 : decode cX1_power 73 = .ok (.ifCond .le 89, 3) := by decide +kernel
theorem dX1_power_76 : decode cX1_power 76 = .ok (.lconst 1, 1) := by decide +kernel
theorem dX1_power_77 : decode cX1_power 77 = .ok (.aload_n 0, 1) := by decide +kernel
theorem dX1_power_78 : decode cX1_power 78 = .ok (.getfield 7, 3) := by decide +kernel
theorem dX1_power_81 : decode cX1_power 81 = .ok (.i2l, 1) := by decide +kernel
theorem dX1_power_82 : decode cX1_power 82 = .ok (.lrem, 1) := by decide +kernel
theorem dX1_power_83 : decode cX1_power 83 = .ok (.lstore 11, 2) := by decide +kernel
theorem dX1_power_85 : decode cX1_power 85 = .ok (.iconst 0, 1) := by decide +kernel
theorem dX1_power_86 : decode cX1_power 86 = .ok (.istore 13, 2) := by decide +kernel
theorem dX1_power_88 : decode cX1_power 88 = .ok (.iload 13, 2) := by decide +kernel
theorem dX1_power_90 : decode cX1_power 90 = .ok (.bipush 10, 2) := by decide +kernel
theorem dX1_power_92 : decode cX1_power 92 = .ok (.if_icmp .ge 19, 3) := by decide +kernel
theorem dX1_power_95 : decode cX1_power 95 = .ok (.aload_n 0, 1) := by decide +kernel
theorem dX1_power_96 : decode cX1_power 96 = .ok (.lload 11, 2) := by decide +kernel
theorem dX1_power_98 : decode cX1_power 98 = .ok (.lload 9, 2) := by decide +kernel
theorem dX1_power_100 : decode cX1_power 100 = .ok (.invokevirtual 84, 3) := by decide +kernel
theorem dX1_power_103 : decode cX1_power 103 = .ok (.lstore 11, 2) := by decide +kernel
theorem dX1_power_105 : decode cX1_power 105 = .ok (.iinc 13 1, 3) := by decide +kernel
theorem dX1_power_108 : decode cX1_power 108 = .ok (.goto (-20), 3) := by decide +kernel
theorem dX1_power_111 : decode cX1_power 111 = .ok (.lload_n 3, 1) := by decide +kernel
theorem dX1_power_112 : decode cX1_power 112 = .ok (.lload 7, 2) := by decide +kernel
theorem dX1_power_114 : decode cX1_power 114 = .ok (.ldiv, 1) := by decide +kernel
theorem dX1_power_115 : decode cX1_power 115 = .ok (.ldc2_w 82, 3) := by decide +kernel
theorem dX1_power_118 : decode cX1_power 118 = .ok (.lrem, 1) := by decide +kernel
theorem dX1_power_119 : decode cX1_power 119 = .ok (.lstore 13, 2) := by decide +kernel
theorem dX1_power_121 : decode cX1_power 121 = .ok (.lload 13, 2) := by decide +kernel
theorem dX1_power_123 : decode cX1_power 123 = .ok (.lconst 0, 1) := by decide +kernel
theorem dX1_power_124 : decode cX1_power 124 = .ok (.lcmp, 1) := by decide +kernel
theorem dX1_power_125 : decode cX1_power 125 = .ok (.ifCond .le 22, 3) := by decide +kernel
theorem dX1_power_128 : decode cX1_power 128 = .ok (.aload_n 0, 1) := by decide +kernel
theorem dX1_power_129 : decode cX1_power 129 = .ok (.lload 11, 2) := by decide +kernel
theorem dX1_power_131 : decode cX1_power 131 = .ok (.lload 5, 2) := by decide +kernel
theorem dX1_power_133 : decode cX1_power 133 = .ok (.invokevirtual 84, 3) := by decide +kernel
theorem dX1_power_136 : decode cX1_power 136 = .ok (.lstore 11, 2) := by decide +kernel
theorem dX1_power_138 : decode cX1_power 138 = .ok (.lload 13, 2) := by decide +kernel
theorem dX1_power_140 : decode cX1_power 140 = .ok (.lconst 1, 1) := by decide +kernel
theorem dX1_power_141 : decode cX1_power 141 = .ok (.lsub, 1) := by decide +kernel
theorem dX1_power_142 : decode cX1_power 142 = .ok (.lstore 13, 2) := by decide +kernel
theorem dX1_power_144 : decode cX1_power 144 = .ok (.goto (-23), 3) := by decide +kernel
theorem dX1_power_147 : decode cX1_power 147 = .ok (.lload 11, 2) := by decide +kernel
theorem dX1_power_149 : decode cX1_power 149 = .ok (.lstore 9, 2) := by decide +kernel
theorem dX1_power_151 : decode cX1_power 151 = .ok (.lload 7, 2) := by decide +kernel
theorem dX1_power_153 : decode cX1_power 153 = .ok (.ldc2_w 82, 3) := by decide +kernel
theorem dX1_power_156 : decode cX1_power 156 = .ok (.ldiv, 1) := by decide +kernel
theorem dX1_power_157 : decode cX1_power 157 = .ok (.lstore 7, 2) := by decide +kernel
theorem dX1_power_159 : decode cX1_power 159 = .ok (.goto (-90), 3) := by decide +kernel
theorem dX1_power_162 : decode cX1_power 162 = .ok (.lload 9, 2) := by decide +kernel
theorem dX1_power_164 : decode cX1_power 164 = .ok (.l2i, 1) := by decide +kernel
theorem dX1_power_165 : decode cX1_power 165 = .ok (.ireturn, 1) := by decide +kernel
theorem dX1_inverse_0 : decode cX1_inverse 0 = .ok (.aload_n 0, 1) := by decide +kernel
theorem dX1_inverse_1 : decode cX1_inverse 1 = .ok (.iconst 0, 1) := by decide +kernel
theorem dX1_inverse_2 : decode cX1_inverse 2 = .ok (.putfield 29, 3) := by decide +kernel
theorem dX1_inverse_5 : decode cX1_inverse 5 = .ok (.lload_n 1, 1) := by decide +kernel
theorem dX1_inverse_6 : decode cX1_inverse 6 = .ok (.aload_n 0, 1) := by decide +kernel
theorem dX1_inverse_7 : decode cX1_inverse 7 = .ok (.getfield 7, 3) := by decide +kernel
theorem dX1_inverse_10 : decode cX1_inverse 10 = .ok (.i2l, 1) := by decide +kernel
theorem dX1_inverse_11 : decode cX1_inverse 11 = .ok (.invokestatic 58, 3) := by decide +kernel
theorem dX1_inverse_14 : decode cX1_inverse 14 = .ok (.lstore_n 3, 1) := by decide +kernel
theorem dX1_inverse_15 : decode cX1_inverse 15 = .ok (.lconst 0, 1) := by decide +kernel
theorem dX1_inverse_16 : decode cX1_inverse 16 = .ok (.lstore 5, 2) := by decide +kernel
theorem dX1_inverse_18 : decode cX1_inverse 18 = .ok (.iconst 0, 1) := by decide +kernel
theorem dX1_inverse_19 : decode cX1_inverse 19 = .ok (.istore 7, 2) := by decide +kernel
theorem dX1_inverse_21 : decode cX1_inverse 21 = .ok (.iload 7, 2) := by decide +kernel
theorem dX1_inverse_23 : decode cX1_inverse 23 = .ok (.aload_n 0, 1) := by decide +kernel
theorem dX1_inverse_24 : decode cX1_inverse 24 = .ok (.getfield 7, 3) := by decide +kernel
theorem dX1_inverse_27 : decode cX1_inverse 27 = .ok (.if_icmp .ge 37, 3) := by decide +kernel
theorem dX1_inverse_30 : decode cX1_inverse 30 = .ok (.lload 5, 2) := by decide +kernel
theorem dX1_inverse_32 : decode cX1_inverse 32 = .ok (.lconst 1, 1) := by decide +kernel
theorem dX1_inverse_33 : decode cX1_inverse 33 = .ok (.aload_n 0, 1) := by decide +kernel
theorem dX1_inverse_34 : decode cX1_inverse 34 = .ok (.getfield 7, 3) := by decide +kernel
theorem dX1_inverse_37 : decode cX1_inverse 37 = .ok (.i2l, 1) := by decide +kernel
theorem dX1_inverse_38 : decode cX1_inverse 38 = .ok (.lrem, 1) := by decide +kernel
theorem dX1_inverse_39 : decode cX1_inverse 39 = .ok (.lcmp, 1) := by decide +kernel
theorem dX1_inverse_40 : decode cX1_inverse 40 = .ok (.ifCond .ne 6, 3) := by decide +kernel
theorem dX1_inverse_43 : decode cX1_inverse 43 = .ok (.iload 7, 2) := by decide +kernel
theorem dX1_inverse_45 : decode cX1_inverse 45 = .ok (.ireturn, 1) := by decide +kernel
theorem dX1_inverse_46 : decode cX1_inverse 46 = .ok (.lload 5, 2) := by decide +kernel
theorem dX1_inverse_48 : decode cX1_inverse 48 = .ok (.lload_n 3, 1) := by decide +kernel
theorem dX1_inverse_49 : decode cX1_inverse 49 = .ok (.ladd, 1) := by decide +kernel
theorem dX1_inverse_50 : decode cX1_inverse 50 = .ok (.aload_n 0, 1) := by decide +kernel
theorem dX1_inverse_51 : decode cX1_inverse 51 = .ok (.getfield 7, 3) := by decide +kernel
theorem dX1_inverse_54 : decode cX1_inverse 54 = .ok (.i2l, 1) := by decide +kernel
theorem dX1_inverse_55 : decode cX1_inverse 55 = .ok (.lrem, 1) := by decide +kernel
theorem dX1_inverse_56 : decode cX1_inverse 56 = .ok (.lstore 5, 2) := by decide +kernel
theorem dX1_inverse_58 : decode cX1_inverse 58 = .ok (.iinc 7 1, 3) := by decide +kernel
theorem dX1_inverse_61 : decode cX1_inverse 61 = .ok (.goto (-40), 3) := by decide +kernel
theorem dX1_inverse_64 : decode cX1_inverse 64 = .ok (.aload_n 0, 1) := by decide +kernel
theorem dX1_inverse_65 : decode cX1_inverse 65 = .ok (.iconst 1, 1) := by decide +kernel
theorem dX1_inverse_66 : decode cX1_inverse 66 = .ok (.invokevirtual 87, 3) := by decide +kernel
theorem dX1_inverse_69 : decode cX1_inverse 69 = .ok (.ireturn, 1) := by decide +kernel
theorem dX1_roots_0 : decode cX1_roots 0 = .ok (.aload_n 0, 1) := by decide +kernel
theorem dX1_roots_1 : decode cX1_roots 1 = .ok (.iconst 0, 1) := by decide +kernel
theorem dX1_roots_2 : decode cX1_roots 2 = .ok (.putfield 29, 3) := by decide +kernel
theorem dX1_roots_5 : decode cX1_roots 5 = .ok (.lload_n 1, 1) := by decide +kernel
theorem dX1_roots_6 : decode cX1_roots 6 = .ok (.aload_n 0, 1) := by decide +kernel
theorem dX1_roots_7 : decode cX1_roots 7 = .ok (.getfield 7, 3) := by decide +kernel
theorem dX1_roots_10 : decode cX1_roots 10 = .ok (.i2l, 1) := by decide +kernel
theorem dX1_roots_11 : decode cX1_roots 11 = .ok (.invokestatic 58, 3) := by decide +kernel
theorem dX1_roots_14 : decode cX1_roots 14 = .ok (.lstore_n 3, 1) := by decide +kernel
theorem dX1_roots_15 : decode cX1_roots 15 = .ok (.lconst 0, 1) := by decide +kernel
theorem dX1_roots_16 : decode cX1_roots 16 = .ok (.lstore 5, 2) := by decide +kernel
theorem dX1_roots_18 : decode cX1_roots 18 = .ok (.aload_n 0, 1) := by decide +kernel
theorem dX1_roots_19 : decode cX1_roots 19 = .ok (.iconst 0, 1) := by decide +kernel
theorem dX1_roots_20 : decode cX1_roots 20 = .ok (.putfield 38, 3) := by decide +kernel
theorem dX1_roots_23 : decode cX1_roots 23 = .ok (.iconst 0, 1) := by decide +kernel
theorem dX1_roots_24 : decode cX1_roots 24 = .ok (.istore 7, 2) := by decide +kernel
theorem dX1_roots_26 : decode cX1_roots 26 = .ok (.iload 7, 2) := by decide +kernel
theorem dX1_roots_28 : decode cX1_roots 28 = .ok (.aload_n 0, 1) := by decide +kernel
theorem dX1_roots_29 : decode cX1_roots 29 = .ok (.getfield 7, 3) := by decide +kernel
theorem dX1_roots_32 : decode cX1_roots 32 = .ok (.if_icmp .ge 57, 3) := by decide +kernel
theorem dX1_roots_35 : decode cX1_roots 35 = .ok (.lload 5, 2) := by decide +kernel
theorem dX1_roots_37 : decode cX1_roots 37 = .ok (.lload_n 3, 1) := by decide +kernel
theorem dX1_roots_38 : decode cX1_roots 38 = .ok (.lcmp, 1) := by decide +kernel
theorem dX1_roots_39 : decode cX1_roots 39 = .ok (.ifCond .ne 24, 3) := by decide +kernel
theorem dX1_roots_42 : decode cX1_roots 42 = .ok (.aload_n 0, 1) := by decide +kernel
theorem dX1_roots_43 : decode cX1_roots 43 = .ok (.getfield 26, 3) := by decide +kernel
theorem dX1_roots_46 : decode cX1_roots 46 = .ok (.aload_n 0, 1) := by decide +kernel
theorem dX1_roots_47 : decode cX1_roots 47 = .ok (.getfield 38, 3) := by decide +kernel
theorem dX1_roots_50 : decode cX1_roots 50 = .ok (.iload 7, 2) := by decide +kernel
theorem dX1_roots_52 : decode cX1_roots 52 = .ok (.iastore, 1) := by decide +kernel
theorem dX1_roots_53 : decode cX1_roots 53 = .ok (.aload_n 0, 1) := by decide +kernel
theorem dX1_roots_54 : decode cX1_roots 54 = .ok (.dup, 1) := by decide +kernel
theorem dX1_roots_55 : decode cX1_roots 55 = .ok (.getfield 38, 3) := by decide +kernel
theorem dX1_roots_58 : decode cX1_roots 58 = .ok (.iconst 1, 1) := by decide +kernel
theorem dX1_roots_59 : decode cX1_roots 59 = .ok (.iadd, 1) := by decide +kernel
theorem dX1_roots_60 : decode cX1_roots 60 = .ok (.putfield 38, 3) := by decide +kernel
theorem dX1_roots_63 : decode cX1_roots 63 = .ok (.lload 5, 2) := by decide +kernel
theorem dX1_roots_65 : decode cX1_roots 65 = .ok (.ldc2_w 62, 3) := by decide +kernel
theorem dX1_roots_68 : decode cX1_roots 68 = .ok (.iload 7, 2) := by decide +kernel
theorem dX1_roots_70 : decode cX1_roots 70 = .ok (.i2l, 1) := by decide +kernel
theorem dX1_roots_71 : decode cX1_roots 71 = .ok (.lmul, 1) := by decide +kernel
theorem dX1_roots_72 : decode cX1_roots 72 = .ok (.ladd, 1) := by decide +kernel
theorem dX1_roots_73 : decode cX1_roots 73 = .ok (.lconst 1, 1) := by decide +kernel
theorem dX1_roots_74 : decode cX1_roots 74 = .ok (.ladd, 1) := by decide +kernel
theorem dX1_roots_75 : decode cX1_roots 75 = .ok (.aload_n 0, 1) := by decide +kernel
theorem dX1_roots_76 : decode cX1_roots 76 = .ok (.getfield 7, 3) := by decide +kernel
theorem dX1_roots_79 : decode cX1_roots 79 = .ok (.i2l, 1) := by decide +kernel
theorem dX1_roots_80 : decode cX1_roots 80 = .ok (.lrem, 1) := by decide +kernel
theorem dX1_roots_81 : decode cX1_roots 81 = .ok (.lstore 5, 2) := by decide +kernel
theorem dX1_roots_83 : decode cX1_roots 83 = .ok (.iinc 7 1, 3) := by decide +kernel
theorem dX1_roots_86 : decode cX1_roots 86 = .ok (.goto (-60), 3) := by decide +kernel
theorem dX1_roots_89 : decode cX1_roots 89 = .ok (.aload_n 0, 1) := by decide +kernel
theorem dX1_roots_90 : decode cX1_roots 90 = .ok (.getfield 38, 3) := by decide +kernel
theorem dX1_roots_93 : decode cX1_roots 93 = .ok (.ireturn, 1) := by decide +kernel
theorem dX1_root_0 : decode cX1_root 0 = .ok (.aload_n 0, 1) := by decide +kernel
theorem dX1_root_1 : decode cX1_root 1 = .ok (.iload_n 1, 1) := by decide +kernel
theorem dX1_root_2 : decode cX1_root 2 = .ok (.i2l, 1) := by decide +kernel
theorem dX1_root_3 : decode cX1_root 3 = .ok (.lconst 0, 1) := by decide +kernel
theorem dX1_root_4 : decode cX1_root 4 = .ok (.aload_n 0, 1) := by decide +kernel
theorem dX1_root_5 : decode cX1_root 5 = .ok (.getfield 38, 3) := by decide +kernel
theorem dX1_root_8 : decode cX1_root 8 = .ok (.iconst 1, 1) := by decide +kernel
theorem dX1_root_9 : decode cX1_root 9 = .ok (.isub, 1) := by decide +kernel
theorem dX1_root_10 : decode cX1_root 10 = .ok (.i2l, 1) := by decide +kernel
theorem dX1_root_11 : decode cX1_root 11 = .ok (.invokestatic 34, 3) := by decide +kernel
theorem dX1_root_14 : decode cX1_root 14 = .ok (.ifCond .eq 7, 3) := by decide +kernel
theorem dX1_root_17 : decode cX1_root 17 = .ok (.iconst 0, 1) := by decide +kernel
theorem dX1_root_18 : decode cX1_root 18 = .ok (.goto 4, 3) := by decide +kernel
theorem dX1_root_21 : decode cX1_root 21 = .ok (.iconst 1, 1) := by decide +kernel
theorem dX1_root_22 : decode cX1_root 22 = .ok (.putfield 29, 3) := by decide +kernel
theorem dX1_root_25 : decode cX1_root 25 = .ok (.aload_n 0, 1) := by decide +kernel
theorem dX1_root_26 : decode cX1_root 26 = .ok (.getfield 29, 3) := by decide +kernel
theorem dX1_root_29 : decode cX1_root 29 = .ok (.ifCond .le 7, 3) := by decide +kernel
theorem dX1_root_32 : decode cX1_root 32 = .ok (.iconst 0, 1) := by decide +kernel
theorem dX1_root_33 : decode cX1_root 33 = .ok (.goto 9, 3) := by decide +kernel
theorem dX1_root_36 : decode cX1_root 36 = .ok (.aload_n 0, 1) := by decide +kernel
theorem dX1_root_37 : decode cX1_root 37 = .ok (.getfield 26, 3) := by decide +kernel
theorem dX1_root_40 : decode cX1_root 40 = .ok (.iload_n 1, 1) := by decide +kernel
theorem dX1_root_41 : decode cX1_root 41 = .ok (.iaload, 1) := by decide +kernel
theorem dX1_root_42 : decode cX1_root 42 = .ok (.ireturn, 1) := by decide +kernel
