theorem dX0_invert_37 : decode cX0_invert 37 = .ok (.iload 8, 2) := by decide +kernel
theorem dX0_invert_39 : decode cX0_invert 39 = .ok (.iload 5, 2) := by decide +kernel
theorem dX0_invert_41 : decode cX0_invert 41 = .ok (.imul, 1) := by decide +kernel
theorem dX0_invert_42 : decode cX0_invert 42 = .ok (.isub, 1) := by decide +kernel
theorem dX0_invert_43 : decode cX0_invert 43 = .ok (.istore 9, 2) := by decide +kernel
theorem dX0_invert_45 : decode cX0_invert 45 = .ok (.iload 4, 2) := by decide +kernel
theorem dX0_invert_47 : decode cX0_invert 47 = .ok (.iload 8, 2) := by decide +kernel
theorem dX0_invert_49 : decode cX0_invert 49 = .ok (.iload 6, 2) := by decide +kernel
theorem dX0_invert_51 : decode cX0_invert 51 = .ok (.imul, 1) := by decide +kernel
theorem dX0_invert_52 : decode cX0_invert 52 = .ok (.isub, 1) := by decide +kernel
theorem dX0_invert_53 : decode cX0_invert 53 = .ok (.istore 10, 2) := by decide +kernel
theorem dX0_invert_55 : decode cX0_invert 55 = .ok (.iload 5, 2) := by decide +kernel
theorem dX0_invert_57 : decode cX0_invert 57 = .ok (.istore_n 3, 1) := by decide +kernel
theorem dX0_invert_58 : decode cX0_invert 58 = .ok (.iload 6, 2) := by decide +kernel
theorem dX0_invert_60 : decode cX0_invert 60 = .ok (.istore 4, 2) := by decide +kernel
theorem dX0_invert_62 : decode cX0_invert 62 = .ok (.iload 9, 2) := by decide +kernel
theorem dX0_invert_64 : decode cX0_invert 64 = .ok (.istore 5, 2) := by decide +kernel
theorem dX0_invert_66 : decode cX0_invert 66 = .ok (.iload 10, 2) := by decide +kernel
theorem dX0_invert_68 : decode cX0_invert 68 = .ok (.istore 6, 2) := by decide +kernel
theorem dX0_invert_70 : decode cX0_invert 70 = .ok (.iinc 7 1, 3) := by decide +kernel
theorem dX0_invert_73 : decode cX0_invert 73 = .ok (.goto (-55), 3) := by decide +kernel
theorem dX0_invert_76 : decode cX0_invert 76 = .ok (.iload_n 3, 1) := by decide +kernel
theorem dX0_invert_77 : decode cX0_invert 77 = .ok (.iconst 1, 1) := by decide +kernel
theorem dX0_invert_78 : decode cX0_invert 78 = .ok (.if_icmp .ne 13, 3) := by decide +kernel
theorem dX0_invert_81 : decode cX0_invert 81 = .ok (.iload 4, 2) := by decide +kernel
theorem dX0_invert_83 : decode cX0_invert 83 = .ok (.i2l, 1) := by decide +kernel
theorem dX0_invert_84 : decode cX0_invert 84 = .ok (.iload_n 2, 1) := by decide +kernel
theorem dX0_invert_85 : decode cX0_invert 85 = .ok (.invokestatic 93, 3) := by decide +kernel
theorem dX0_invert_88 : decode cX0_invert 88 = .ok (.goto 4, 3) := by decide +kernel
theorem dX0_invert_91 : decode cX0_invert 91 = .ok (.iconst (-1), 1) := by decide +kernel
theorem dX0_invert_92 : decode cX0_invert 92 = .ok (.ireturn, 1) := by decide +kernel
theorem dX0_inverse_0 : decode cX0_inverse 0 = .ok (.lload_n 1, 1) := by decide +kernel
theorem dX0_inverse_1 : decode cX0_inverse 1 = .ok (.aload_n 0, 1) := by decide +kernel
theorem dX0_inverse_2 : decode cX0_inverse 2 = .ok (.getfield 25, 3) := by decide +kernel
theorem dX0_inverse_5 : decode cX0_inverse 5 = .ok (.invokestatic 85, 3) := by decide +kernel
theorem dX0_inverse_8 : decode cX0_inverse 8 = .ok (.istore_n 3, 1) := by decide +kernel
theorem dX0_inverse_9 : decode cX0_inverse 9 = .ok (.iload_n 3, 1) := by decide +kernel
theorem dX0_inverse_10 : decode cX0_inverse 10 = .ok (.iconst (-1), 1) := by decide +kernel
theorem dX0_inverse_11 : decode cX0_inverse 11 = .ok (.if_icmp .ne 13, 3) := by decide +kernel
theorem dX0_inverse_14 : decode cX0_inverse 14 = .ok (.new 88, 3) := by decide +kernel
theorem dX0_inverse_17 : decode cX0_inverse 17 = .ok (.dup, 1) := by decide +kernel
theorem dX0_inverse_18 : decode cX0_inverse 18 = .ok (.ldc 90, 2) := by decide +kernel
theorem dX0_inverse_20 : decode cX0_inverse 20 = .ok (.invokespecial 92, 3) := by decide +kernel
theorem dX0_inverse_23 : decode cX0_inverse 23 = .ok (.athrow, 1) := by decide +kernel
theorem dX0_inverse_24 : decode cX0_inverse 24 = .ok (.iload_n 3, 1) := by decide +kernel
theorem dX0_inverse_25 : decode cX0_inverse 25 = .ok (.ireturn, 1) := by decide +kernel
theorem dX0_nonresidue_0 : decode cX0_nonresidue 0 = .ok (.iconst 2, 1) := by decide +kernel
theorem dX0_nonresidue_1 : decode cX0_nonresidue 1 = .ok (.istore_n 1, 1) := by decide +kernel
theorem dX0_nonresidue_2 : decode cX0_nonresidue 2 = .ok (.iload_n 1, 1) := by decide +kernel
theorem dX0_nonresidue_3 : decode cX0_nonresidue 3 = .ok (.iload_n 0, 1) := by decide +kernel
theorem dX0_nonresidue_4 : decode cX0_nonresidue 4 = .ok (.if_icmp .ge 19, 3) := by decide +kernel
theorem dX0_nonresidue_7 : decode cX0_nonresidue 7 = .ok (.iload_n 1, 1) := by decide +kernel
theorem dX0_nonresidue_8 : decode cX0_nonresidue 8 = .ok (.i2l, 1) := by decide +kernel
theorem dX0_nonresidue_9 : decode cX0_nonresidue 9 = .ok (.iload_n 0, 1) := by decide +kernel
theorem dX0_nonresidue_10 : decode cX0_nonresidue 10 = .ok (.invokestatic 75, 3) := by decide +kernel
theorem dX0_nonresidue_13 : decode cX0_nonresidue 13 = .ok (.iconst (-1), 1) := by decide +kernel
theorem dX0_nonresidue_14 : decode cX0_nonresidue 14 = .ok (.if_icmp .eq 9, 3) := by decide +kernel
theorem dX0_nonresidue_17 : decode cX0_nonresidue 17 = .ok (.iinc 1 1, 3) := by decide +kernel
theorem dX0_nonresidue_20 : decode cX0_nonresidue 20 = .ok (.goto (-18), 3) := by decide +kernel
theorem dX0_nonresidue_23 : decode cX0_nonresidue 23 = .ok (.iload_n 1, 1) := by decide +kernel
theorem dX0_nonresidue_24 : decode cX0_nonresidue 24 = .ok (.ireturn, 1) := by decide +kernel
theorem dX0_rootByTonelli_0 : decode cX0_rootByTonelli 0 = .ok (.iload_n 0, 1) := by decide +kernel
theorem dX0_rootByTonelli_1 : decode cX0_rootByTonelli 1 = .ok (.i2l, 1) := by decide +kernel
theorem dX0_rootByTonelli_2 : decode cX0_rootByTonelli 2 = .ok (.iload_n 2, 1) := by decide +kernel
theorem dX0_rootByTonelli_3 : decode cX0_rootByTonelli 3 = .ok (.iconst 1, 1) := by decide +kernel
theorem dX0_rootByTonelli_4 : decode cX0_rootByTonelli 4 = .ok (.iadd, 1) := by decide +kernel
theorem dX0_rootByTonelli_5 : decode cX0_rootByTonelli 5 = .ok (.iconst 2, 1) := by decide +kernel
theorem dX0_rootByTonelli_6 : decode cX0_rootByTonelli 6 = .ok (.idiv, 1) := by decide +kernel
theorem dX0_rootByTonelli_7 : decode cX0_rootByTonelli 7 = .ok (.i2l, 1) := by decide +kernel
theorem dX0_rootByTonelli_8 : decode cX0_rootByTonelli 8 = .ok (.iload_n 1, 1) := by decide +kernel
theorem dX0_rootByTonelli_9 : decode cX0_rootByTonelli 9 = .ok (.invokestatic 81, 3) := by decide +kernel
theorem dX0_rootByTonelli_12 : decode cX0_rootByTonelli 12 = .ok (.i2l, 1) := by decide +kernel
theorem dX0_rootByTonelli_13 : decode cX0_rootByTonelli 13 = .ok (.lstore 4, 2) := by decide +kernel
theorem dX0_rootByTonelli_15 : decode cX0_rootByTonelli 15 = .ok (.iload_n 0, 1) := by decide +kernel
theorem dX0_rootByTonelli_16 : decode cX0_rootByTonelli 16 = .ok (.i2l, 1) := by decide +kernel
theorem dX0_rootByTonelli_17 : decode cX0_rootByTonelli 17 = .ok (.iload_n 2, 1) := by decide +kernel
theorem dX0_rootByTonelli_18 : decode cX0_rootByTonelli 18 = .ok (.i2l, 1) := by decide +kernel
theorem dX0_rootByTonelli_19 : decode cX0_rootByTonelli 19 = .ok (.iload_n 1, 1) := by decide +kernel
theorem dX0_rootByTonelli_20 : decode cX0_rootByTonelli 20 = .ok (.invokestatic 81, 3) := by decide +kernel
theorem dX0_rootByTonelli_23 : decode cX0_rootByTonelli 23 = .ok (.i2l, 1) := by decide +kernel
theorem dX0_rootByTonelli_24 : decode cX0_rootByTonelli 24 = .ok (.lstore 6, 2) := by decide +kernel
theorem dX0_rootByTonelli_26 : decode cX0_rootByTonelli 26 = .ok (.iload_n 1, 1) := by decide +kernel
theorem dX0_rootByTonelli_27 : decode cX0_rootByTonelli 27 = .ok (.invokestatic 142, 3) := by decide +kernel
theorem dX0_rootByTonelli_30 : decode cX0_rootByTonelli 30 = .ok (.i2l, 1) := by decide +kernel
theorem dX0_rootByTonelli_31 : decode cX0_rootByTonelli 31 = .ok (.iload_n 2, 1) := by decide +kernel
theorem dX0_rootByTonelli_32 : decode cX0_rootByTonelli 32 = .ok (.i2l, 1) := by decide +kernel
theorem dX0_rootByTonelli_33 : decode cX0_rootByTonelli 33 = .ok (.iload_n 1, 1) := by decide +kernel
theorem dX0_rootByTonelli_34 : decode cX0_rootByTonelli 34 = .ok (.invokestatic 81, 3) := by decide +kernel
theorem dX0_rootByTonelli_37 : decode cX0_rootByTonelli 37 = .ok (.i2l, 1) := by decide +kernel
theorem dX0_rootByTonelli_38 : decode cX0_rootByTonelli 38 = .ok (.lstore 8, 2) := by decide +kernel
theorem dX0_rootByTonelli_40 : decode cX0_rootByTonelli 40 = .ok (.iload_n 3, 1) := by decide +kernel
theorem dX0_rootByTonelli_41 : decode cX0_rootByTonelli 41 = .ok (.istore 10, 2) := by decide +kernel
theorem dX0_rootByTonelli_43 : decode cX0_rootByTonelli 43 = .ok (.iload 10, 2) := by decide +kernel
theorem dX0_rootByTonelli_45 : decode cX0_rootByTonelli 45 = .ok (.iconst 1, 1) := by decide +kernel
theorem dX0_rootByTonelli_46 : decode cX0_rootByTonelli 46 = .ok (.if_icmp .le 65, 3) := by decide +kernel
theorem dX0_rootByTonelli_49 : decode cX0_rootByTonelli 49 = .ok (.lload 8, 2) := by decide +kernel
theorem dX0_rootByTonelli_51 : decode cX0_rootByTonelli 51 = .ok (.lload 8, 2) := by decide +kernel
theorem dX0_rootByTonelli_53 : decode cX0_rootByTonelli 53 = .ok (.lmul, 1) := by decide +kernel
theorem dX0_rootByTonelli_54 : decode cX0_rootByTonelli 54 = .ok (.iload_n 1, 1) := by decide +kernel
theorem dX0_rootByTonelli_55 : decode cX0_rootByTonelli 55 = .ok (.invokestatic 93, 3) := by decide +kernel
theorem dX0_rootByTonelli_58 : decode cX0_rootByTonelli 58 = .ok (.i2l, 1) := by decide +kernel
theorem dX0_rootByTonelli_59 : decode cX0_rootByTonelli 59 = .ok (.lstore 11, 2) := by decide +kernel
theorem dX0_rootByTonelli_61 : decode cX0_rootByTonelli 61 = .ok (.lload 6, 2) := by decide +kernel
theorem dX0_rootByTonelli_63 : decode cX0_rootByTonelli 63 = .ok (.lconst 1, 1) := by decide +kernel
theorem dX0_rootByTonelli_64 : decode cX0_rootByTonelli 64 = .ok (.iload 10, 2) := by decide +kernel
theorem dX0_rootByTonelli_66 : decode cX0_rootByTonelli 66 = .ok (.iconst 2, 1) := by decide +kernel
theorem dX0_rootByTonelli_67 : decode cX0_rootByTonelli 67 = .ok (.isub, 1) := by decide +kernel
theorem dX0_rootByTonelli_68 : decode cX0_rootByTonelli 68 = .ok (.lshl, 1) := by decide +kernel
theorem dX0_rootByTonelli_69 : decode cX0_rootByTonelli 69 = .ok (.iload_n 1, 1) := by decide +kernel
theorem dX0_rootByTonelli_70 : decode cX0_rootByTonelli 70 = .ok (.invokestatic 81, 3) := by decide +kernel
theorem dX0_rootByTonelli_73 : decode cX0_rootByTonelli 73 = .ok (.iconst 1, 1) := by decide +kernel
theorem dX0_rootByTonelli_74 : decode cX0_rootByTonelli 74 = .ok (.if_icmp .eq 27, 3) := by decide +kernel
theorem dX0_rootByTonelli_77 : decode cX0_rootByTonelli 77 = .ok (.lload 4, 2) := by decide +kernel
theorem dX0_rootByTonelli_79 : decode cX0_rootByTonelli 79 = .ok (.lload 8, 2) := by decide +kernel
theorem dX0_rootByTonelli_81 : decode cX0_rootByTonelli 81 = .ok (.lmul, 1) := by decide +kernel
theorem dX0_rootByTonelli_82 : decode cX0_rootByTonelli 82 = .ok (.iload_n 1, 1) := by decide +kernel
theorem dX0_rootByTonelli_83 : decode cX0_rootByTonelli 83 = .ok (.invokestatic 93, 3) := by decide +kernel
theorem dX0_rootByTonelli_86 : decode cX0_rootByTonelli 86 = .ok (.i2l, 1) := by decide +kernel
theorem dX0_rootByTonelli_87 : decode cX0_rootByTonelli 87 = .ok (.lstore 4, 2) := by decide +kernel
theorem dX0_rootByTonelli_89 : decode cX0_rootByTonelli 89 = .ok (.lload 6, 2) := by decide +kernel
theorem dX0_rootByTonelli_91 : decode cX0_rootByTonelli 91 = .ok (.lload 11, 2) := by decide +kernel
theorem dX0_rootByTonelli_93 : decode cX0_rootByTonelli 93 = .ok (.lmul, 1) := by decide +kernel
theorem dX0_rootByTonelli_94 : decode cX0_rootByTonelli 94 = .ok (.iload_n 1, 1) := by decide +kernel
theorem dX0_rootByTonelli_95 : decode cX0_rootByTonelli 95 = .ok (.invokestatic 93, 3) := by decide +kernel
theorem dX0_rootByTonelli_98 : decode cX0_rootByTonelli 98 = .ok (.i2l, 1) := by decide +kernel
theorem dX0_rootByTonelli_99 : decode cX0_rootByTonelli 99 = .ok (.lstore 6, 2) := by decide +kernel
theorem dX0_rootByTonelli_101 : decode cX0_rootByTonelli 101 = .ok (.lload 11, 2) := by decide +kernel
theorem dX0_rootByTonelli_103 : decode cX0_rootByTonelli 103 = .ok (.lstore 8, 2) := by decide +kernel
theorem dX0_rootByTonelli_105 : decode cX0_rootByTonelli 105 = .ok (.iinc 10 (-1), 3) := by decide +kernel
theorem dX0_rootByTonelli_108 : decode cX0_rootByTonelli 108 = .ok (.goto (-65), 3) := by decide +kernel
theorem dX0_rootByTonelli_111 : decode cX0_rootByTonelli 111 = .ok (.lload 4, 2) := by decide +kernel
theorem dX0_rootByTonelli_113 : decode cX0_rootByTonelli 113 = .ok (.l2i, 1) := by decide +kernel
theorem dX0_rootByTonelli_114 : decode cX0_rootByTonelli 114 = .ok (.ireturn, 1) := by decide +kernel
theorem dX0_rootModuloPrime_0 : decode cX0_rootModuloPrime 0 = .ok (.iload_n 1, 1) := by decide +kernel
theorem dX0_rootModuloPrime_1 : decode cX0_rootModuloPrime 1 = .ok (.iconst 2, 1) := by decide +kernel
theorem dX0_rootModuloPrime_2 : decode cX0_rootModuloPrime 2 = .ok (.if_icmp .eq 7, 3) := by decide +kernel
theorem dX0_rootModuloPrime_5 : decode cX0_rootModuloPrime 5 = .ok (.iload_n 0, 1) := by decide +kernel
theorem dX0_rootModuloPrime_6 : decode cX0_rootModuloPrime 6 = .ok (.ifCond .ne 5, 3) := by decide +kernel
theorem dX0_rootModuloPrime_9 : decode cX0_rootModuloPrime 9 = .ok (.iload_n 0, 1) := by decide +kernel
theorem dX0_rootModuloPrime_10 : decode cX0_rootModuloPrime 10 = .ok (.ireturn, 1) := by decide +kernel
theorem dX0_rootModuloPrime_11 : decode cX0_rootModuloPrime 11 = .ok (.iload_n 0, 1) := by decide +kernel
theorem dX0_rootModuloPrime_12 : decode cX0_rootModuloPrime 12 = .ok (.i2l, 1) := by decide +kernel
theorem dX0_rootModuloPrime_13 : decode cX0_rootModuloPrime 13 = .ok (.iload_n 1, 1) := by decide +kernel
theorem dX0_rootModuloPrime_14 : decode cX0_rootModuloPrime 14 = .ok (.invokestatic 75, 3) := by decide +kernel
theorem dX0_rootModuloPrime_17 : decode cX0_rootModuloPrime 17 = .ok (.iconst 1, 1) := by decide +kernel
theorem dX0_rootModuloPrime_18 : decode cX0_rootModuloPrime 18 = .ok (.if_icmp .eq 5, 3) := by decide +kernel
theorem dX0_rootModuloPrime_21 : decode cX0_rootModuloPrime 21 = .ok (.iconst (-1), 1) := by decide +kernel
theorem dX0_rootModuloPrime_22 : decode cX0_rootModuloPrime 22 = .ok (.ireturn, 1) := by decide +kernel
theorem dX0_rootModuloPrime_23 : decode cX0_rootModuloPrime 23 = .ok (.iload_n 1, 1) := by decide +kernel
theorem dX0_rootModuloPrime_24 : decode cX0_rootModuloPrime 24 = .ok (.iconst 1, 1) := by decide +kernel
theorem dX0_rootModuloPrime_25 : decode cX0_rootModuloPrime 25 = .ok (.isub, 1) := by decide +kernel
theorem dX0_rootModuloPrime_26 : decode cX0_rootModuloPrime 26 = .ok (.istore_n 2, 1) := by decide +kernel
theorem dX0_rootModuloPrime_27 : decode cX0_rootModuloPrime 27 = .ok (.iconst 0, 1) := by decide +kernel
theorem dX0_rootModuloPrime_28 : decode cX0_rootModuloPrime 28 = .ok (.istore_n 3, 1) := by decide +kernel
theorem dX0_rootModuloPrime_29 : decode cX0_rootModuloPrime 29 = .ok (.iload_n 3, 1) := by decide +kernel
theorem dX0_rootModuloPrime_30 : decode cX0_rootModuloPrime 30 = .ok (.bipush 22, 2) := by decide +kernel
theorem dX0_rootModuloPrime_32 : decode cX0_rootModuloPrime 32 = .ok (.if_icmp .ge 19, 3) := by decide +kernel
theorem dX0_rootModuloPrime_35 : decode cX0_rootModuloPrime 35 = .ok (.iload_n 2, 1) := by decide +kernel
theorem dX0_rootModuloPrime_36 : decode cX0_rootModuloPrime 36 = .ok (.iconst 2, 1) := by decide +kernel
theorem dX0_rootModuloPrime_37 : decode cX0_rootModuloPrime 37 = .ok (.irem, 1) := by decide +kernel
theorem dX0_rootModuloPrime_38 : decode cX0_rootModuloPrime 38 = .ok (.ifCond .ne 13, 3) := by decide +kernel
theorem dX0_rootModuloPrime_41 : decode cX0_rootModuloPrime 41 = .ok (.iload_n 2, 1) := by decide +kernel
theorem dX0_rootModuloPrime_42 : decode cX0_rootModuloPrime 42 = .ok (.iconst 2, 1) := by decide +kernel
theorem dX0_rootModuloPrime_43 : decode cX0_rootModuloPrime 43 = .ok (.idiv, 1) := by decide +kernel
theorem dX0_rootModuloPrime_44 : decode cX0_rootModuloPrime 44 = .ok (.istore_n 2, 1) := by decide +kernel
theorem dX0_rootModuloPrime_45 : decode cX0_rootModuloPrime 45 = .ok (.iinc 3 1, 3) := by decide +kernel
theorem dX0_rootModuloPrime_48 : decode cX0_rootModuloPrime 48 = .ok (.goto (-19), 3) := by decide +kernel
theorem dX0_rootModuloPrime_51 : decode cX0_rootModuloPrime 51 = .ok (.iload_n 0, 1) := by decide +kernel
theorem dX0_rootModuloPrime_52 : decode cX0_rootModuloPrime 52 = .ok (.iload_n 1, 1) := by decide +kernel
theorem dX0_rootModuloPrime_53 : decode cX0_rootModuloPrime 53 = .ok (.iload_n 2, 1) := by decide +kernel
theorem dX0_rootModuloPrime_54 : decode cX0_rootModuloPrime 54 = .ok (.iload_n 3, 1) := by decide +kernel
theorem dX0_rootModuloPrime_55 : decode cX0_rootModuloPrime 55 = .ok (.invokestatic 139, 3) := by decide +kernel
theorem dX0_rootModuloPrime_58 : decode cX0_rootModuloPrime 58 = .ok (.ireturn, 1) := by decide +kernel
theorem dX0_swapRows_0 : decode cX0_swapRows 0 = .ok (.aload_n 0, 1) := by decide +kernel
theorem dX0_swapRows_1 : decode cX0_swapRows 1 = .ok (.getfield 19, 3) := by decide +kernel
theorem dX0_swapRows_4 : decode cX0_swapRows 4 = .ok (.astore_n 1, 1) := by decide +kernel
theorem dX0_swapRows_5 : decode cX0_swapRows 5 = .ok (.aload_n 0, 1) := by decide +kernel
theorem dX0_swapRows_6 : decode cX0_swapRows 6 = .ok (.aload_n 0, 1) := by decide +kernel
theorem dX0_swapRows_7 : decode cX0_swapRows 7 = .ok (.getfield 22, 3) := by decide +kernel
theorem dX0_swapRows_10 : decode cX0_swapRows 10 = .ok (.putfield 19, 3) := by decide +kernel
theorem dX0_swapRows_13 : decode cX0_swapRows 13 = .ok (.aload_n 0, 1) := by decide +kernel
theorem dX0_swapRows_14 : decode cX0_swapRows 14 = .ok (.aload_n 1, 1) := by decide +kernel
theorem dX0_swapRows_15 : decode cX0_swapRows 15 = .ok (.putfield 22, 3) := by decide +kernel
theorem dX0_swapRows_18 : decode cX0_swapRows 18 = .ok (.return_, 1) := by decide +kernel
theorem dX0_addRoot_0 : decode cX0_addRoot 0 = .ok (.aload_n 0, 1) := by decide +kernel
theorem dX0_addRoot_1 : decode cX0_addRoot 1 = .ok (.getfield 35, 3) := by decide +kernel
theorem dX0_addRoot_4 : decode cX0_addRoot 4 = .ok (.sipush 4096, 3) := by decide +kernel
theorem dX0_addRoot_7 : decode cX0_addRoot 7 = .ok (.if_icmp .ge 23, 3) := by decide +kernel
theorem dX0_addRoot_10 : decode cX0_addRoot 10 = .ok (.aload_n 0, 1) := by decide +kernel
theorem dX0_addRoot_11 : decode cX0_addRoot 11 = .ok (.getfield 19, 3) := by decide +kernel
theorem dX0_addRoot_14 : decode cX0_addRoot 14 = .ok (.aload_n 0, 1) := by decide +kernel
theorem dX0_addRoot_15 : decode cX0_addRoot 15 = .ok (.getfield 35, 3) := by decide +kernel
theorem dX0_addRoot_18 : decode cX0_addRoot 18 = .ok (.iload_n 1, 1) := by decide +kernel
theorem dX0_addRoot_19 : decode cX0_addRoot 19 = .ok (.iastore, 1) := by decide +kernel
theorem dX0_addRoot_20 : decode cX0_addRoot 20 = .ok (.aload_n 0, 1) := by decide +kernel
theorem dX0_addRoot_21 : decode cX0_addRoot 21 = .ok (.dup, 1) := by decide +kernel
theorem dX0_addRoot_22 : decode cX0_addRoot 22 = .ok (.getfield 35, 3) := by decide +kernel
theorem dX0_addRoot_25 : decode cX0_addRoot 25 = .ok (.iconst 1, 1) := by decide +kernel
theorem dX0_addRoot_26 : decode cX0_addRoot 26 = .ok (.iadd, 1) := by decide +kernel
theorem dX0_addRoot_27 : decode cX0_addRoot 27 = .ok (.putfield 35, 3) := by decide +kernel
theorem dX0_addRoot_30 : decode cX0_addRoot 30 = .ok (.return_, 1) := by decide +kernel
theorem dX0_joinRootsModuloPrime_0 : decode cX0_joinRootsModuloPrime 0 = .ok (.iload_n 1, 1) := by decide +kernel
theorem dX0_joinRootsModuloPrime_1 : decode cX0_joinRootsModuloPrime 1 = .ok (.i2l, 1) := by decide +kernel
theorem dX0_joinRootsModuloPrime_2 : decode cX0_joinRootsModuloPrime 2 = .ok (.iload_n 3, 1) := by decide +kernel
theorem dX0_joinRootsModuloPrime_3 : decode cX0_joinRootsModuloPrime 3 = .ok (.invokestatic 93, 3) := by decide +kernel
theorem dX0_joinRootsModuloPrime_6 : decode cX0_joinRootsModuloPrime 6 = .ok (.iload_n 3, 1) := by decide +kernel
theorem dX0_joinRootsModuloPrime_7 : decode cX0_joinRootsModuloPrime 7 = .ok (.invokestatic 116, 3) := by decide +kernel
theorem dX0_joinRootsModuloPrime_10 : decode cX0_joinRootsModuloPrime 10 = .ok (.istore 4, 2) := by decide +kernel
theorem dX0_joinRootsModuloPrime_12 : decode cX0_joinRootsModuloPrime 12 = .ok (.iload 4, 2) := by decide +kernel
theorem dX0_joinRootsModuloPrime_14 : decode cX0_joinRootsModuloPrime 14 = .ok (.ineg, 1) := by decide +kernel
theorem dX0_joinRootsModuloPrime_15 : decode cX0_joinRootsModuloPrime 15 = .ok (.i2l, 1) := by decide +kernel
theorem dX0_joinRootsModuloPrime_16 : decode cX0_joinRootsModuloPrime 16 = .ok (.iload_n 3, 1) := by decide +kernel
theorem dX0_joinRootsModuloPrime_17 : decode cX0_joinRootsModuloPrime 17 = .ok (.invokestatic 93, 3) := by decide +kernel
theorem dX0_joinRootsModuloPrime_20 : decode cX0_joinRootsModuloPrime 20 = .ok (.istore 5, 2) := by decide +kernel
theorem dX0_joinRootsModuloPrime_22 : decode cX0_joinRootsModuloPrime 22 = .ok (.iload_n 2, 1) := by decide +kernel
theorem dX0_joinRootsModuloPrime_23 : decode cX0_joinRootsModuloPrime 23 = .ok (.i2l, 1) := by decide +kernel
theorem dX0_joinRootsModuloPrime_24 : decode cX0_joinRootsModuloPrime 24 = .ok (.iload_n 3, 1) := by decide +kernel
theorem dX0_joinRootsModuloPrime_25 : decode cX0_joinRootsModuloPrime 25 = .ok (.invokestatic 85, 3) := by decide +kernel
theorem dX0_joinRootsModuloPrime_28 : decode cX0_joinRootsModuloPrime 28 = .ok (.istore 6, 2) := by decide +kernel
theorem dX0_joinRootsModuloPrime_30 : decode cX0_joinRootsModuloPrime 30 = .ok (.aload_n 0, 1) := by decide +kernel
theorem dX0_joinRootsModuloPrime_31 : decode cX0_joinRootsModuloPrime 31 = .ok (.getfield 35, 3) := by decide +kernel
theorem dX0_joinRootsModuloPrime_34 : decode cX0_joinRootsModuloPrime 34 = .ok (.istore 7, 2) := by decide +kernel
theorem dX0_joinRootsModuloPrime_36 : decode cX0_joinRootsModuloPrime 36 = .ok (.aload_n 0, 1) := by decide +kernel
theorem dX0_joinRootsModuloPrime_37 : decode cX0_joinRootsModuloPrime 37 = .ok (.invokevirtual 120, 3) := by decide +kernel
theorem dX0_joinRootsModuloPrime_40 : decode cX0_joinRootsModuloPrime 40 = .ok (.aload_n 0, 1) := by decide +kernel
theorem dX0_joinRootsModuloPrime_41 : decode cX0_joinRootsModuloPrime 41 = .ok (.iconst 0, 1) := by decide +kernel
theorem dX0_joinRootsModuloPrime_42 : decode cX0_joinRootsModuloPrime 42 = .ok (.putfield 35, 3) := by decide +kernel
theorem dX0_joinRootsModuloPrime_45 : decode cX0_joinRootsModuloPrime 45 = .ok (.iload 4, 2) := by decide +kernel
theorem dX0_joinRootsModuloPrime_47 : decode cX0_joinRootsModuloPrime 47 = .ok (.iconst (-1), 1) := by decide +kernel
theorem dX0_joinRootsModuloPrime_48 : decode cX0_joinRootsModuloPrime 48 = .ok (.if_icmp .eq 9, 3) := by decide +kernel
theorem dX0_joinRootsModuloPrime_51 : decode cX0_joinRootsModuloPrime 51 = .ok (.iload 6, 2) := by decide +kernel
theorem dX0_joinRootsModuloPrime_53 : decode cX0_joinRootsModuloPrime 53 = .ok (.iconst (-1), 1) := by decide +kernel
theorem dX0_joinRootsModuloPrime_54 : decode cX0_joinRootsModuloPrime 54 = .ok (.if_icmp .ne 4, 3) := by decide +kernel
theorem dX0_joinRootsModuloPrime_57 : decode cX0_joinRootsModuloPrime 57 = .ok (.return_, 1) := by decide +kernel
theorem dX0_joinRootsModuloPrime_58 : decode cX0_joinRootsModuloPrime 58 = .ok (.iconst 0, 1) := by decide +kernel
theorem dX0_joinRootsModuloPrime_59 : decode cX0_joinRootsModuloPrime 59 = .ok (.istore 8, 2) := by decide +kernel
theorem dX0_joinRootsModuloPrime_61 : decode cX0_joinRootsModuloPrime 61 = .ok (.iload 8, 2) := by decide +kernel
theorem dX0_joinRootsModuloPrime_63 : decode cX0_joinRootsModuloPrime 63 = .ok (.iload 7, 2) := by decide +kernel
theorem dX0_joinRootsModuloPrime_65 : decode cX0_joinRootsModuloPrime 65 = .ok (.if_icmp .ge 71, 3) := by decide +kernel
theorem dX0_joinRootsModuloPrime_68 : decode cX0_joinRootsModuloPrime 68 = .ok (.aload_n 0, 1) := by decide +kernel
theorem dX0_joinRootsModuloPrime_69 : decode cX0_joinRootsModuloPrime 69 = .ok (.getfield 22, 3) := by decide +kernel
theorem dX0_joinRootsModuloPrime_72 : decode cX0_joinRootsModuloPrime 72 = .ok (.iload 8, 2) := by decide +kernel
theorem dX0_joinRootsModuloPrime_74 : decode cX0_joinRootsModuloPrime 74 = .ok (.iaload, 1) := by decide +kernel
theorem dX0_joinRootsModuloPrime_75 : decode cX0_joinRootsModuloPrime 75 = .ok (.istore 9, 2) := by decide +kernel
theorem dX0_joinRootsModuloPrime_77 : decode cX0_joinRootsModuloPrime 77 = .ok (.aload_n 0, 1) := by decide +kernel
theorem dX0_joinRootsModuloPrime_78 : decode cX0_joinRootsModuloPrime 78 = .ok (.iload 9, 2) := by decide +kernel
theorem dX0_joinRootsModuloPrime_80 : decode cX0_joinRootsModuloPrime 80 = .ok (.iload_n 2, 1) := by decide +kernel
theorem dX0_joinRootsModuloPrime_81 : decode cX0_joinRootsModuloPrime 81 = .ok (.iload 4, 2) := by decide +kernel
theorem dX0_joinRootsModuloPrime_83 : decode cX0_joinRootsModuloPrime 83 = .ok (.iload 9, 2) := by decide +kernel
theorem dX0_joinRootsModuloPrime_85 : decode cX0_joinRootsModuloPrime 85 = .ok (.isub, 1) := by decide +kernel
theorem dX0_joinRootsModuloPrime_86 : decode cX0_joinRootsModuloPrime 86 = .ok (.i2l, 1) := by decide +kernel
theorem dX0_joinRootsModuloPrime_87 : decode cX0_joinRootsModuloPrime 87 = .ok (.iload 6, 2) := by decide +kernel
theorem dX0_joinRootsModuloPrime_89 : decode cX0_joinRootsModuloPrime 89 = .ok (.i2l, 1) := by decide +kernel
theorem dX0_joinRootsModuloPrime_90 : decode cX0_joinRootsModuloPrime 90 = .ok (.lmul, 1) := by decide +kernel
theorem dX0_joinRootsModuloPrime_91 : decode cX0_joinRootsModuloPrime 91 = .ok (.iload_n 3, 1) := by decide +kernel
theorem dX0_joinRootsModuloPrime_92 : decode cX0_joinRootsModuloPrime 92 = .ok (.invokestatic 93, 3) := by decide +kernel
theorem dX0_joinRootsModuloPrime_95 : decode cX0_joinRootsModuloPrime 95 = .ok (.imul, 1) := by decide +kernel
theorem dX0_joinRootsModuloPrime_96 : decode cX0_joinRootsModuloPrime 96 = .ok (.iadd, 1) := by decide +kernel
theorem dX0_joinRootsModuloPrime_97 : decode cX0_joinRootsModuloPrime 97 = .ok (.invokevirtual 123, 3) := by decide +kernel
theorem dX0_joinRootsModuloPrime_100 : decode cX0_joinRootsModuloPrime 100 = .ok (.iload 5, 2) := by decide +kernel
theorem dX0_joinRootsModuloPrime_102 : decode cX0_joinRootsModuloPrime 102 = .ok (.iload 4, 2) := by decide +kernel
theorem dX0_joinRootsModuloPrime_104 : decode cX0_joinRootsModuloPrime 104 = .ok (.if_icmp .eq 26, 3) := by decide +kernel
theorem dX0_joinRootsModuloPrime_107 : decode cX0_joinRootsModuloPrime 107 = .ok (.aload_n 0, 1) := by decide +kernel
theorem dX0_joinRootsModuloPrime_108 : decode cX0_joinRootsModuloPrime 108 = .ok (.iload 9, 2) := by decide +kernel
theorem dX0_joinRootsModuloPrime_110 : decode cX0_joinRootsModuloPrime 110 = .ok (.iload_n 2, 1) := by decide +kernel
theorem dX0_joinRootsModuloPrime_111 : decode cX0_joinRootsModuloPrime 111 = .ok (.iload 5, 2) := by decide +kernel
theorem dX0_joinRootsModuloPrime_113 : decode cX0_joinRootsModuloPrime 113 = .ok (.iload 9, 2) := by decide +kernel
theorem dX0_joinRootsModuloPrime_115 : decode cX0_joinRootsModuloPrime 115 = .ok (.isub, 1) := by decide +kernel
theorem dX0_joinRootsModuloPrime_116 : decode cX0_joinRootsModuloPrime 116 = .ok (.i2l, 1) := by decide +kernel
theorem dX0_joinRootsModuloPrime_117 : decode cX0_joinRootsModuloPrime 117 = .ok (.iload 6, 2) := by decide +kernel
theorem dX0_joinRootsModuloPrime_119 : decode cX0_joinRootsModuloPrime 119 = .ok (.i2l, 1) := by decide +kernel
theorem dX0_joinRootsModuloPrime_120 : decode cX0_joinRootsModuloPrime 120 = .ok (.lmul, 1) := by decide +kernel
theorem dX0_joinRootsModuloPrime_121 : decode cX0_joinRootsModuloPrime 121 = .ok (.iload_n 3, 1) := by decide +kernel
theorem dX0_joinRootsModuloPrime_122 : decode cX0_joinRootsModuloPrime 122 = .ok (.invokestatic 93, 3) := by decide +kernel
theorem dX0_joinRootsModuloPrime_125 : decode cX0_joinRootsModuloPrime 125 = .ok (.imul, 1) := by decide +kernel
theorem dX0_joinRootsModuloPrime_126 : decode cX0_joinRootsModuloPrime 126 = .ok (.iadd, 1) := by decide +kernel
theorem dX0_joinRootsModuloPrime_127 : decode cX0_joinRootsModuloPrime 127 = .ok (.invokevirtual 123, 3) := by decide +kernel
theorem dX0_joinRootsModuloPrime_130 : decode cX0_joinRootsModuloPrime 130 = .ok (.iinc 8 1, 3) := by decide +kernel
theorem dX0_joinRootsModuloPrime_133 : decode cX0_joinRootsModuloPrime 133 = .ok (.goto (-72), 3) := by decide +kernel
theorem dX0_joinRootsModuloPrime_136 : decode cX0_joinRootsModuloPrime 136 = .ok (.return_, 1) := by decide +kernel
theorem dX0_excess_0 : decode cX0_excess 0 = .ok (.iload_n 2, 1) := by decide +kernel
theorem dX0_excess_1 : decode cX0_excess 1 = .ok (.iconst 1, 1) := by decide +kernel
theorem dX0_excess_2 : decode cX0_excess 2 = .ok (.if_icmp .ge 5, 3) := by decide +kernel
theorem dX0_excess_5 : decode cX0_excess 5 = .ok (.iconst 0, 1) := by decide +kernel
theorem dX0_excess_6 : decode cX0_excess 6 = .ok (.ireturn, 1) := by decide +kernel
theorem dX0_excess_7 : decode cX0_excess 7 = .ok (.iload_n 0, 1) := by decide +kernel
theorem dX0_excess_8 : decode cX0_excess 8 = .ok (.i2l, 1) := by decide +kernel
theorem dX0_excess_9 : decode cX0_excess 9 = .ok (.iload_n 0, 1) := by decide +kernel
theorem dX0_excess_10 : decode cX0_excess 10 = .ok (.i2l, 1) := by decide +kernel
theorem dX0_excess_11 : decode cX0_excess 11 = .ok (.lmul, 1) := by decide +kernel
theorem dX0_excess_12 : decode cX0_excess 12 = .ok (.iload_n 1, 1) := by decide +kernel
theorem dX0_excess_13 : decode cX0_excess 13 = .ok (.i2l, 1) := by decide +kernel
theorem dX0_excess_14 : decode cX0_excess 14 = .ok (.lsub, 1) := by decide +kernel
theorem dX0_excess_15 : decode cX0_excess 15 = .ok (.iload_n 2, 1) := by decide +kernel
theorem dX0_excess_16 : decode cX0_excess 16 = .ok (.i2l, 1) := by decide +kernel
theorem dX0_excess_17 : decode cX0_excess 17 = .ok (.ldiv, 1) := by decide +kernel
theorem dX0_excess_18 : decode cX0_excess 18 = .ok (.iload_n 3, 1) := by decide +kernel
theorem dX0_excess_19 : decode cX0_excess 19 = .ok (.invokestatic 93, 3) := by decide +kernel
theorem dX0_excess_22 : decode cX0_excess 22 = .ok (.ireturn, 1) := by decide +kernel
theorem dX0_liftByAll_0 : decode cX0_liftByAll 0 = .ok (.iconst 0, 1) := by decide +kernel
theorem dX0_liftByAll_1 : decode cX0_liftByAll 1 = .ok (.istore 4, 2) := by decide +kernel
theorem dX0_liftByAll_3 : decode cX0_liftByAll 3 = .ok (.iconst 0, 1) := by decide +kernel
theorem dX0_liftByAll_4 : decode cX0_liftByAll 4 = .ok (.istore 5, 2) := by decide +kernel
theorem dX0_liftByAll_6 : decode cX0_liftByAll 6 = .ok (.iload 5, 2) := by decide +kernel
theorem dX0_liftByAll_8 : decode cX0_liftByAll 8 = .ok (.aload_n 0, 1) := by decide +kernel
theorem dX0_liftByAll_9 : decode cX0_liftByAll 9 = .ok (.getfield 35, 3) := by decide +kernel
theorem dX0_liftByAll_12 : decode cX0_liftByAll 12 = .ok (.if_icmp .ge 42, 3) := by decide +kernel
theorem dX0_liftByAll_15 : decode cX0_liftByAll 15 = .ok (.aload_n 0, 1) := by decide +kernel
theorem dX0_liftByAll_16 : decode cX0_liftByAll 16 = .ok (.getfield 19, 3) := by decide +kernel
theorem dX0_liftByAll_19 : decode cX0_liftByAll 19 = .ok (.iload 5, 2) := by decide +kernel
theorem dX0_liftByAll_21 : decode cX0_liftByAll 21 = .ok (.iaload, 1) := by decide +kernel
theorem dX0_liftByAll_22 : decode cX0_liftByAll 22 = .ok (.iload_n 1, 1) := by decide +kernel
theorem dX0_liftByAll_23 : decode cX0_liftByAll 23 = .ok (.iload_n 2, 1) := by decide +kernel
theorem dX0_liftByAll_24 : decode cX0_liftByAll 24 = .ok (.iload_n 3, 1) := by decide +kernel
theorem dX0_liftByAll_25 : decode cX0_liftByAll 25 = .ok (.invokestatic 133, 3) := by decide +kernel
theorem dX0_liftByAll_28 : decode cX0_liftByAll 28 = .ok (.ifCond .ne 20, 3) := by decide +kernel
theorem dX0_liftByAll_31 : decode cX0_liftByAll 31 = .ok (.aload_n 0, 1) := by decide +kernel
theorem dX0_liftByAll_32 : decode cX0_liftByAll 32 = .ok (.getfield 19, 3) := by decide +kernel
theorem dX0_liftByAll_35 : decode cX0_liftByAll 35 = .ok (.iload 4, 2) := by decide +kernel
theorem dX0_liftByAll_37 : decode cX0_liftByAll 37 = .ok (.aload_n 0, 1) := by decide +kernel
theorem dX0_liftByAll_38 : decode cX0_liftByAll 38 = .ok (.getfield 19, 3) := by decide +kernel
theorem dX0_liftByAll_41 : decode cX0_liftByAll 41 = .ok (.iload 5, 2) := by decide +kernel
theorem dX0_liftByAll_43 : decode cX0_liftByAll 43 = .ok (.iaload, 1) := by decide +kernel
theorem dX0_liftByAll_44 : decode cX0_liftByAll 44 = .ok (.iastore, 1) := by decide +kernel
theorem dX0_liftByAll_45 : decode cX0_liftByAll 45 = .ok (.iinc 4 1, 3) := by decide +kernel
theorem dX0_liftByAll_48 : decode cX0_liftByAll 48 = .ok (.iinc 5 1, 3) := by decide +kernel
theorem dX0_liftByAll_51 : decode cX0_liftByAll 51 = .ok (.goto (-45), 3) := by decide +kernel
theorem dX0_liftByAll_54 : decode cX0_liftByAll 54 = .ok (.aload_n 0, 1) := by decide +kernel
theorem dX0_liftByAll_55 : decode cX0_liftByAll 55 = .ok (.iload 4, 2) := by decide +kernel
theorem dX0_liftByAll_57 : decode cX0_liftByAll 57 = .ok (.putfield 35, 3) := by decide +kernel
theorem dX0_liftByAll_60 : decode cX0_liftByAll 60 = .ok (.iconst 1, 1) := by decide +kernel
theorem dX0_liftByAll_61 : decode cX0_liftByAll 61 = .ok (.istore 5, 2) := by decide +kernel
theorem dX0_liftByAll_63 : decode cX0_liftByAll 63 = .ok (.iload 5, 2) := by decide +kernel
theorem dX0_liftByAll_65 : decode cX0_liftByAll 65 = .ok (.iload_n 3, 1) := by decide +kernel
theorem dX0_liftByAll_66 : decode cX0_liftByAll 66 = .ok (.if_icmp .ge 41, 3) := by decide +kernel
theorem dX0_liftByAll_69 : decode cX0_liftByAll 69 = .ok (.iconst 0, 1) := by decide +kernel
theorem dX0_liftByAll_70 : decode cX0_liftByAll 70 = .ok (.istore 6, 2) := by decide +kernel
theorem dX0_liftByAll_72 : decode cX0_liftByAll 72 = .ok (.iload 6, 2) := by decide +kernel
theorem dX0_liftByAll_74 : decode cX0_liftByAll 74 = .ok (.iload 4, 2) := by decide +kernel
theorem dX0_liftByAll_76 : decode cX0_liftByAll 76 = .ok (.if_icmp .ge 25, 3) := by decide +kernel
theorem dX0_liftByAll_79 : decode cX0_liftByAll 79 = .ok (.aload_n 0, 1) := by decide +kernel
theorem dX0_liftByAll_80 : decode cX0_liftByAll 80 = .ok (.aload_n 0, 1) := by decide +kernel
theorem dX0_liftByAll_81 : decode cX0_liftByAll 81 = .ok (.getfield 19, 3) := by decide +kernel
theorem dX0_liftByAll_84 : decode cX0_liftByAll 84 = .ok (.iload 6, 2) := by decide +kernel
theorem dX0_liftByAll_86 : decode cX0_liftByAll 86 = .ok (.iaload, 1) := by decide +kernel
theorem dX0_liftByAll_87 : decode cX0_liftByAll 87 = .ok (.iload 5, 2) := by decide +kernel
theorem dX0_liftByAll_89 : decode cX0_liftByAll 89 = .ok (.iload_n 2, 1) := by decide +kernel
theorem dX0_liftByAll_90 : decode cX0_liftByAll 90 = .ok (.imul, 1) := by decide +kernel
theorem dX0_liftByAll_91 : decode cX0_liftByAll 91 = .ok (.iadd, 1) := by decide +kernel
theorem dX0_liftByAll_92 : decode cX0_liftByAll 92 = .ok (.invokevirtual 123, 3) := by decide +kernel
theorem dX0_liftByAll_95 : decode cX0_liftByAll 95 = .ok (.iinc 6 1, 3) := by decide +kernel
theorem dX0_liftByAll_98 : decode cX0_liftByAll 98 = .ok (.goto (-26), 3) := by decide +kernel
theorem dX0_liftByAll_101 : decode cX0_liftByAll 101 = .ok (.iinc 5 1, 3) := by decide +kernel
theorem dX0_liftByAll_104 : decode cX0_liftByAll 104 = .ok (.goto (-41), 3) := by decide +kernel
theorem dX0_liftByAll_107 : decode cX0_liftByAll 107 = .ok (.return_, 1) := by decide +kernel
theorem dX0_liftByOne_0 : decode cX0_liftByOne 0 = .ok (.iconst 0, 1) := by decide +kernel
theorem dX0_liftByOne_1 : decode cX0_liftByOne 1 = .ok (.istore 4, 2) := by decide +kernel
theorem dX0_liftByOne_3 : decode cX0_liftByOne 3 = .ok (.iload 4, 2) := by decide +kernel
theorem dX0_liftByOne_5 : decode cX0_liftByOne 5 = .ok (.aload_n 0, 1) := by decide +kernel
theorem dX0_liftByOne_6 : decode cX0_liftByOne 6 = .ok (.getfield 35, 3) := by decide +kernel
theorem dX0_liftByOne_9 : decode cX0_liftByOne 9 = .ok (.if_icmp .ge 65, 3) := by decide +kernel
theorem dX0_liftByOne_12 : decode cX0_liftByOne 12 = .ok (.aload_n 0, 1) := by decide +kernel
theorem dX0_liftByOne_13 : decode cX0_liftByOne 13 = .ok (.getfield 19, 3) := by decide +kernel
theorem dX0_liftByOne_16 : decode cX0_liftByOne 16 = .ok (.iload 4, 2) := by decide +kernel
theorem dX0_liftByOne_18 : decode cX0_liftByOne 18 = .ok (.iaload, 1) := by decide +kernel
theorem dX0_liftByOne_19 : decode cX0_liftByOne 19 = .ok (.istore 5, 2) := by decide +kernel
theorem dX0_liftByOne_21 : decode cX0_liftByOne 21 = .ok (.ldc2_w 137, 3) := by decide +kernel
theorem dX0_liftByOne_24 : decode cX0_liftByOne 24 = .ok (.iload 5, 2) := by decide +kernel
theorem dX0_liftByOne_26 : decode cX0_liftByOne 26 = .ok (.i2l, 1) := by decide +kernel
theorem dX0_liftByOne_27 : decode cX0_liftByOne 27 = .ok (.lmul, 1) := by decide +kernel
theorem dX0_liftByOne_28 : decode cX0_liftByOne 28 = .ok (.iload_n 3, 1) := by decide +kernel
theorem dX0_liftByOne_29 : decode cX0_liftByOne 29 = .ok (.invokestatic 85, 3) := by decide +kernel
theorem dX0_liftByOne_32 : decode cX0_liftByOne 32 = .ok (.i2l, 1) := by decide +kernel
theorem dX0_liftByOne_33 : decode cX0_liftByOne 33 = .ok (.lstore 6, 2) := by decide +kernel
theorem dX0_liftByOne_35 : decode cX0_liftByOne 35 = .ok (.lload 6, 2) := by decide +kernel
theorem dX0_liftByOne_37 : decode cX0_liftByOne 37 = .ok (.lneg, 1) := by decide +kernel
theorem dX0_liftByOne_38 : decode cX0_liftByOne 38 = .ok (.iload 5, 2) := by decide +kernel
theorem dX0_liftByOne_40 : decode cX0_liftByOne 40 = .ok (.iload_n 1, 1) := by decide +kernel
theorem dX0_liftByOne_41 : decode cX0_liftByOne 41 = .ok (.iload_n 2, 1) := by decide +kernel
theorem dX0_liftByOne_42 : decode cX0_liftByOne 42 = .ok (.iload_n 3, 1) := by decide +kernel
theorem dX0_liftByOne_43 : decode cX0_liftByOne 43 = .ok (.invokestatic 133, 3) := by decide +kernel
theorem dX0_liftByOne_46 : decode cX0_liftByOne 46 = .ok (.i2l, 1) := by decide +kernel
theorem dX0_liftByOne_47 : decode cX0_liftByOne 47 = .ok (.lmul, 1) := by decide +kernel
theorem dX0_liftByOne_48 : decode cX0_liftByOne 48 = .ok (.iload_n 3, 1) := by decide +kernel
theorem dX0_liftByOne_49 : decode cX0_liftByOne 49 = .ok (.invokestatic 93, 3) := by decide +kernel
theorem dX0_liftByOne_52 : decode cX0_liftByOne 52 = .ok (.istore 8, 2) := by decide +kernel
theorem dX0_liftByOne_54 : decode cX0_liftByOne 54 = .ok (.aload_n 0, 1) := by decide +kernel
theorem dX0_liftByOne_55 : decode cX0_liftByOne 55 = .ok (.getfield 19, 3) := by decide +kernel
theorem dX0_liftByOne_58 : decode cX0_liftByOne 58 = .ok (.iload 4, 2) := by decide +kernel
theorem dX0_liftByOne_60 : decode cX0_liftByOne 60 = .ok (.iload 5, 2) := by decide +kernel
theorem dX0_liftByOne_62 : decode cX0_liftByOne 62 = .ok (.iload 8, 2) := by decide +kernel
theorem dX0_liftByOne_64 : decode cX0_liftByOne 64 = .ok (.iload_n 2, 1) := by decide +kernel
theorem dX0_liftByOne_65 : decode cX0_liftByOne 65 = .ok (.imul, 1) := by decide +kernel
theorem dX0_liftByOne_66 : decode cX0_liftByOne 66 = .ok (.iadd, 1) := by decide +kernel
theorem dX0_liftByOne_67 : decode cX0_liftByOne 67 = .ok (.iastore, 1) := by decide +kernel
theorem dX0_liftByOne_68 : decode cX0_liftByOne 68 = .ok (.iinc 4 1, 3) := by decide +kernel
theorem dX0_liftByOne_71 : decode cX0_liftByOne 71 = .ok (.goto (-68), 3) := by decide +kernel
theorem dX0_liftByOne_74 : decode cX0_liftByOne 74 = .ok (.return_, 1) := by decide +kernel
theorem dX0_liftRoots_0 : decode cX0_liftRoots 0 = .ok (.iload_n 3, 1) := by decide +kernel
theorem dX0_liftRoots_1 : decode cX0_liftRoots 1 = .ok (.iconst 2, 1) := by decide +kernel
theorem dX0_liftRoots_2 : decode cX0_liftRoots 2 = .ok (.if_icmp .eq 12, 3) := by decide +kernel
theorem dX0_liftRoots_5 : decode cX0_liftRoots 5 = .ok (.iload_n 1, 1) := by decide +kernel
theorem dX0_liftRoots_6 : decode cX0_liftRoots 6 = .ok (.i2l, 1) := by decide +kernel
theorem dX0_liftRoots_7 : decode cX0_liftRoots 7 = .ok (.iload_n 3, 1) := by decide +kernel
theorem dX0_liftRoots_8 : decode cX0_liftRoots 8 = .ok (.invokestatic 93, 3) := by decide +kernel
theorem dX0_liftRoots_11 : decode cX0_liftRoots 11 = .ok (.ifCond .ne 13, 3) := by decide +kernel
theorem dX0_liftRoots_14 : decode cX0_liftRoots 14 = .ok (.aload_n 0, 1) := by decide +kernel
theorem dX0_liftRoots_15 : decode cX0_liftRoots 15 = .ok (.iload_n 1, 1) := by decide +kernel
theorem dX0_liftRoots_16 : decode cX0_liftRoots 16 = .ok (.iload_n 2, 1) := by decide +kernel
theorem dX0_liftRoots_17 : decode cX0_liftRoots 17 = .ok (.iload_n 3, 1) := by decide +kernel
theorem dX0_liftRoots_18 : decode cX0_liftRoots 18 = .ok (.invokevirtual 127, 3) := by decide +kernel
theorem dX0_liftRoots_21 : decode cX0_liftRoots 21 = .ok (.goto 10, 3) := by decide +kernel
theorem dX0_liftRoots_24 : decode cX0_liftRoots 24 = .ok (.aload_n 0, 1) := by decide +kernel
theorem dX0_liftRoots_25 : decode cX0_liftRoots 25 = .ok (.iload_n 1, 1) := by decide +kernel
theorem dX0_liftRoots_26 : decode cX0_liftRoots 26 = .ok (.iload_n 2, 1) := by decide +kernel
theorem dX0_liftRoots_27 : decode cX0_liftRoots 27 = .ok (.iload_n 3, 1) := by decide +kernel
theorem dX0_liftRoots_28 : decode cX0_liftRoots 28 = .ok (.invokevirtual 130, 3) := by decide +kernel
theorem dX0_liftRoots_31 : decode cX0_liftRoots 31 = .ok (.return_, 1) := by decide +kernel
theorem dX0_roots_0 : decode cX0_roots 0 = .ok (.lload_n 1, 1) := by decide +kernel
theorem dX0_roots_1 : decode cX0_roots 1 = .ok (.aload_n 0, 1) := by decide +kernel
theorem dX0_roots_2 : decode cX0_roots 2 = .ok (.getfield 25, 3) := by decide +kernel
theorem dX0_roots_5 : decode cX0_roots 5 = .ok (.invokestatic 93, 3) := by decide +kernel
theorem dX0_roots_8 : decode cX0_roots 8 = .ok (.istore_n 3, 1) := by decide +kernel
theorem dX0_roots_9 : decode cX0_roots 9 = .ok (.iconst 1, 1) := by decide +kernel
theorem dX0_roots_10 : decode cX0_roots 10 = .ok (.istore 4, 2) := by decide +kernel
theorem dX0_roots_12 : decode cX0_roots 12 = .ok (.aload_n 0, 1) := by decide +kernel
theorem dX0_roots_13 : decode cX0_roots 13 = .ok (.getfield 19, 3) := by decide +kernel
theorem dX0_roots_16 : decode cX0_roots 16 = .ok (.iconst 0, 1) := by decide +kernel
theorem dX0_roots_17 : decode cX0_roots 17 = .ok (.iconst 0, 1) := by decide +kernel
theorem dX0_roots_18 : decode cX0_roots 18 = .ok (.iastore, 1) := by decide +kernel
theorem dX0_roots_19 : decode cX0_roots 19 = .ok (.aload_n 0, 1) := by decide +kernel
theorem dX0_roots_20 : decode cX0_roots 20 = .ok (.iconst 1, 1) := by decide +kernel
theorem dX0_roots_21 : decode cX0_roots 21 = .ok (.putfield 35, 3) := by decide +kernel
theorem dX0_roots_24 : decode cX0_roots 24 = .ok (.iconst 0, 1) := by decide +kernel
theorem dX0_roots_25 : decode cX0_roots 25 = .ok (.istore 5, 2) := by decide +kernel
theorem dX0_roots_27 : decode cX0_roots 27 = .ok (.iload 5, 2) := by decide +kernel
theorem dX0_roots_29 : decode cX0_roots 29 = .ok (.aload_n 0, 1) := by decide +kernel
theorem dX0_roots_30 : decode cX0_roots 30 = .ok (.getfield 29, 3) := by decide +kernel
theorem dX0_roots_33 : decode cX0_roots 33 = .ok (.if_icmp .ge 78, 3) := by decide +kernel
theorem dX0_roots_36 : decode cX0_roots 36 = .ok (.aload_n 0, 1) := by decide +kernel
theorem dX0_roots_37 : decode cX0_roots 37 = .ok (.getfield 35, 3) := by decide +kernel
theorem dX0_roots_40 : decode cX0_roots 40 = .ok (.ifCond .le 71, 3) := by decide +kernel
theorem dX0_roots_43 : decode cX0_roots 43 = .ok (.aload_n 0, 1) := by decide +kernel
theorem dX0_roots_44 : decode cX0_roots 44 = .ok (.getfield 9, 3) := by decide +kernel
theorem dX0_roots_47 : decode cX0_roots 47 = .ok (.iload 5, 2) := by decide +kernel
theorem dX0_roots_49 : decode cX0_roots 49 = .ok (.iaload, 1) := by decide +kernel
theorem dX0_roots_50 : decode cX0_roots 50 = .ok (.istore 6, 2) := by decide +kernel
theorem dX0_roots_52 : decode cX0_roots 52 = .ok (.aload_n 0, 1) := by decide +kernel
theorem dX0_roots_53 : decode cX0_roots 53 = .ok (.iload_n 3, 1) := by decide +kernel
theorem dX0_roots_54 : decode cX0_roots 54 = .ok (.iload 4, 2) := by decide +kernel
theorem dX0_roots_56 : decode cX0_roots 56 = .ok (.iload 6, 2) := by decide +kernel
theorem dX0_roots_58 : decode cX0_roots 58 = .ok (.invokevirtual 96, 3) := by decide +kernel
theorem dX0_roots_61 : decode cX0_roots 61 = .ok (.iload 4, 2) := by decide +kernel
theorem dX0_roots_63 : decode cX0_roots 63 = .ok (.iload 6, 2) := by decide +kernel
theorem dX0_roots_65 : decode cX0_roots 65 = .ok (.imul, 1) := by decide +kernel
theorem dX0_roots_66 : decode cX0_roots 66 = .ok (.istore 4, 2) := by decide +kernel
theorem dX0_roots_68 : decode cX0_roots 68 = .ok (.iconst 1, 1) := by decide +kernel
theorem dX0_roots_69 : decode cX0_roots 69 = .ok (.istore 7, 2) := by decide +kernel
theorem dX0_roots_71 : decode cX0_roots 71 = .ok (.iload 7, 2) := by decide +kernel
theorem dX0_roots_73 : decode cX0_roots 73 = .ok (.aload_n 0, 1) := by decide +kernel
theorem dX0_roots_74 : decode cX0_roots 74 = .ok (.getfield 13, 3) := by decide +kernel
theorem dX0_roots_77 : decode cX0_roots 77 = .ok (.iload 5, 2) := by decide +kernel
theorem dX0_roots_79 : decode cX0_roots 79 = .ok (.iaload, 1) := by decide +kernel
theorem dX0_roots_80 : decode cX0_roots 80 = .ok (.if_icmp .ge 25, 3) := by decide +kernel
theorem dX0_roots_83 : decode cX0_roots 83 = .ok (.aload_n 0, 1) := by decide +kernel
theorem dX0_roots_84 : decode cX0_roots 84 = .ok (.iload_n 3, 1) := by decide +kernel
theorem dX0_roots_85 : decode cX0_roots 85 = .ok (.iload 4, 2) := by decide +kernel
theorem dX0_roots_87 : decode cX0_roots 87 = .ok (.iload 6, 2) := by decide +kernel
theorem dX0_roots_89 : decode cX0_roots 89 = .ok (.invokevirtual 100, 3) := by decide +kernel
theorem dX0_roots_92 : decode cX0_roots 92 = .ok (.iload 4, 2) := by decide +kernel
theorem dX0_roots_94 : decode cX0_roots 94 = .ok (.iload 6, 2) := by decide +kernel
theorem dX0_roots_96 : decode cX0_roots 96 = .ok (.imul, 1) := by decide +kernel
theorem dX0_roots_97 : decode cX0_roots 97 = .ok (.istore 4, 2) := by decide +kernel
theorem dX0_roots_99 : decode cX0_roots 99 = .ok (.iinc 7 1, 3) := by decide +kernel
theorem dX0_roots_102 : decode cX0_roots 102 = .ok (.goto (-31), 3) := by decide +kernel
theorem dX0_roots_105 : decode cX0_roots 105 = .ok (.iinc 5 1, 3) := by decide +kernel
theorem dX0_roots_108 : decode cX0_roots 108 = .ok (.goto (-81), 3) := by decide +kernel
theorem dX0_roots_111 : decode cX0_roots 111 = .ok (.aload_n 0, 1) := by decide +kernel
theorem dX0_roots_112 : decode cX0_roots 112 = .ok (.aload_n 0, 1) := by decide +kernel
theorem dX0_roots_113 : decode cX0_roots 113 = .ok (.getfield 19, 3) := by decide +kernel
theorem dX0_roots_116 : decode cX0_roots 116 = .ok (.aload_n 0, 1) := by decide +kernel
theorem dX0_roots_117 : decode cX0_roots 117 = .ok (.getfield 35, 3) := by decide +kernel
theorem dX0_roots_120 : decode cX0_roots 120 = .ok (.invokevirtual 103, 3) := by decide +kernel
theorem dX0_roots_123 : decode cX0_roots 123 = .ok (.aload_n 0, 1) := by decide +kernel
theorem dX0_roots_124 : decode cX0_roots 124 = .ok (.getfield 35, 3) := by decide +kernel
theorem dX0_roots_127 : decode cX0_roots 127 = .ok (.ireturn, 1) := by decide +kernel
theorem dX0_root_0 : decode cX0_root 0 = .ok (.iload_n 1, 1) := by decide +kernel
theorem dX0_root_1 : decode cX0_root 1 = .ok (.ifCond .lt 11, 3) := by decide +kernel
theorem dX0_root_4 : decode cX0_root 4 = .ok (.iload_n 1, 1) := by decide +kernel
theorem dX0_root_5 : decode cX0_root 5 = .ok (.aload_n 0, 1) := by decide +kernel
theorem dX0_root_6 : decode cX0_root 6 = .ok (.getfield 35, 3) := by decide +kernel
theorem dX0_root_9 : decode cX0_root 9 = .ok (.if_icmp .lt 13, 3) := by decide +kernel
theorem dX0_root_12 : decode cX0_root 12 = .ok (.new 52, 3) := by decide +kernel
theorem dX0_root_15 : decode cX0_root 15 = .ok (.dup, 1) := by decide +kernel
theorem dX0_root_16 : decode cX0_root 16 = .ok (.ldc 107, 2) := by decide +kernel
theorem dX0_root_18 : decode cX0_root 18 = .ok (.invokespecial 56, 3) := by decide +kernel
theorem dX0_root_21 : decode cX0_root 21 = .ok (.athrow, 1) := by decide +kernel
theorem dX0_root_22 : decode cX0_root 22 = .ok (.aload_n 0, 1) := by decide +kernel
theorem dX0_root_23 : decode cX0_root 23 = .ok (.getfield 19, 3) := by decide +kernel
theorem dX0_root_26 : decode cX0_root 26 = .ok (.iload_n 1, 1) := by decide +kernel
theorem dX0_root_27 : decode cX0_root 27 = .ok (.iaload, 1) := by decide +kernel
theorem dX0_root_28 : decode cX0_root 28 = .ok (.ireturn, 1) := by decide +kernel
theorem dX1_thrown_0 : decode cX1_thrown 0 = .ok (.aload_n 0, 1) := by decide +kernel
theorem dX1_thrown_1 : decode cX1_thrown 1 = .ok (.getfield 29, 3) := by decide +kernel
theorem dX1_thrown_4 : decode cX1_thrown 4 = .ok (.ireturn, 1) := by decide +kernel
theorem dX1_raise_0 : decode cX1_raise 0 = .ok (.aload_n 0, 1) := by decide +kernel
theorem dX1_raise_1 : decode cX1_raise 1 = .ok (.iload_n 1, 1) := by decide +kernel
theorem dX1_raise_2 : decode cX1_raise 2 = .ok (.putfield 29, 3) := by decide +kernel
theorem dX1_raise_5 : decode cX1_raise 5 = .ok (.iconst 0, 1) := by decide +kernel
theorem dX1_raise_6 : decode cX1_raise 6 = .ok (.ireturn, 1) := by decide +kernel
theorem dX1_in_0 : decode cX1_in 0 = .ok (.lload_n 0, 1) := by decide +kernel
theorem dX1_in_1 : decode cX1_in 1 = .ok (.lload_n 2, 1) := by decide +kernel
theorem dX1_in_2 : decode cX1_in 2 = .ok (.lcmp, 1) := by decide +kernel
theorem dX1_in_3 : decode cX1_in 3 = .ok (.ifCond .lt 14, 3) := by decide +kernel
theorem dX1_in_6 : decode cX1_in 6 = .ok (.lload_n 0, 1) := by decide +kernel
theorem dX1_in_7 : decode cX1_in 7 = .ok (.lload 4, 2) := by decide +kernel
theorem dX1_in_9 : decode cX1_in 9 = .ok (.lcmp, 1) := by decide +kernel
theorem dX1_in_10 : decode cX1_in 10 = .ok (.ifCond .gt 7, 3) := by decide +kernel
theorem dX1_in_13 : decode cX1_in 13 = .ok (.iconst 1, 1) := by decide +kernel
theorem dX1_in_14 : decode cX1_in 14 = .ok (.goto 4, 3) := by decide +kernel
theorem dX1_in_17 : decode cX1_in 17 = .ok (.iconst 0, 1) := by decide +kernel
theorem dX1_in_18 : decode cX1_in 18 = .ok (.ireturn, 1) := by decide +kernel
theorem dX1_rest_0 : decode cX1_rest 0 = .ok (.lload_n 0, 1) := by decide +kernel
theorem dX1_rest_1 : decode cX1_rest 1 = .ok (.lload_n 2, 1) := by decide +kernel
theorem dX1_rest_2 : decode cX1_rest 2 = .ok (.lrem, 1) := by decide +kernel
theorem dX1_rest_3 : decode cX1_rest 3 = .ok (.lstore 4, 2) := by decide +kernel
theorem dX1_rest_5 : decode cX1_rest 5 = .ok (.lload 4, 2) := by decide +kernel
theorem dX1_rest_7 : decode cX1_rest 7 = .ok (.lconst 0, 1) := by decide +kernel
theorem dX1_rest_8 : decode cX1_rest 8 = .ok (.lcmp, 1) := by decide +kernel
theorem dX1_rest_9 : decode cX1_rest 9 = .ok (.ifCond .ge 10, 3) := by decide +kernel
theorem dX1_rest_12 : decode cX1_rest 12 = .ok (.lload 4, 2) := by decide +kernel
theorem dX1_rest_14 : decode cX1_rest 14 = .ok (.lload_n 2, 1) := by decide +kernel
theorem dX1_rest_15 : decode cX1_rest 15 = .ok (.ladd, 1) := by decide +kernel
theorem dX1_rest_16 : decode cX1_rest 16 = .ok (.goto 5, 3) := by decide +kernel
theorem dX1_rest_19 : decode cX1_rest 19 = .ok (.lload 4, 2) := by decide +kernel
theorem dX1_rest_21 : decode cX1_rest 21 = .ok (.lreturn, 1) := by decide +kernel
theorem dX1_isPrime_0 : decode cX1_isPrime 0 = .ok (.iconst 0, 1) := by decide +kernel
theorem dX1_isPrime_1 : decode cX1_isPrime 1 = .ok (.istore_n 2, 1) := by decide +kernel
theorem dX1_isPrime_2 : decode cX1_isPrime 2 = .ok (.iload_n 2, 1) := by decide +kernel
theorem dX1_isPrime_3 : decode cX1_isPrime 3 = .ok (.aload_n 0, 1) := by decide +kernel
theorem dX1_isPrime_4 : decode cX1_isPrime 4 = .ok (.getfield 13, 3) := by decide +kernel
theorem dX1_isPrime_7 : decode cX1_isPrime 7 = .ok (.if_icmp .ge 42, 3) := by decide +kernel
theorem dX1_isPrime_10 : decode cX1_isPrime 10 = .ok (.aload_n 0, 1) := by decide +kernel
theorem dX1_isPrime_11 : decode cX1_isPrime 11 = .ok (.getfield 16, 3) := by decide +kernel
theorem dX1_isPrime_14 : decode cX1_isPrime 14 = .ok (.iload_n 2, 1) := by decide +kernel
theorem dX1_isPrime_15 : decode cX1_isPrime 15 = .ok (.iaload, 1) := by decide +kernel
theorem dX1_isPrime_16 : decode cX1_isPrime 16 = .ok (.iconst 1, 1) := by decide +kernel
theorem dX1_isPrime_17 : decode cX1_isPrime 17 = .ok (.if_icmp .le 26, 3) := by decide +kernel
theorem dX1_isPrime_20 : decode cX1_isPrime 20 = .ok (.aload_n 0, 1) := by decide +kernel
theorem dX1_isPrime_21 : decode cX1_isPrime 21 = .ok (.getfield 16, 3) := by decide +kernel
theorem dX1_isPrime_24 : decode cX1_isPrime 24 = .ok (.iload_n 2, 1) := by decide +kernel
theorem dX1_isPrime_25 : decode cX1_isPrime 25 = .ok (.iaload, 1) := by decide +kernel
theorem dX1_isPrime_26 : decode cX1_isPrime 26 = .ok (.iload_n 1, 1) := by decide +kernel
theorem dX1_isPrime_27 : decode cX1_isPrime 27 = .ok (.if_icmp .ge 16, 3) := by decide +kernel
theorem dX1_isPrime_30 : decode cX1_isPrime 30 = .ok (.iload_n 1, 1) := by decide +kernel
theorem dX1_isPrime_31 : decode cX1_isPrime 31 = .ok (.aload_n 0, 1) := by decide +kernel
theorem dX1_isPrime_32 : decode cX1_isPrime 32 = .ok (.getfield 16, 3) := by decide +kernel
theorem dX1_isPrime_35 : decode cX1_isPrime 35 = .ok (.iload_n 2, 1) := by decide +kernel
theorem dX1_isPrime_36 : decode cX1_isPrime 36 = .ok (.iaload, 1) := by decide +kernel
theorem dX1_isPrime_37 : decode cX1_isPrime 37 = .ok (.irem, 1) := by decide +kernel
theorem dX1_isPrime_38 : decode cX1_isPrime 38 = .ok (.ifCond .ne 5, 3) := by decide +kernel
theorem dX1_isPrime_41 : decode cX1_isPrime 41 = .ok (.iconst 0, 1) := by decide +kernel
theorem dX1_isPrime_42 : decode cX1_isPrime 42 = .ok (.ireturn, 1) := by decide +kernel
theorem dX1_isPrime_43 : decode cX1_isPrime 43 = .ok (.iinc 2 1, 3) := by decide +kernel
theorem dX1_isPrime_46 : decode cX1_isPrime 46 = .ok (.goto (-44), 3) := by decide +kernel
theorem dX1_isPrime_49 : decode cX1_isPrime 49 = .ok (.iload_n 1, 1) := by decide +kernel
theorem dX1_isPrime_50 : decode cX1_isPrime 50 = .ok (.iconst 1, 1) := by decide +kernel
theorem dX1_isPrime_51 : decode cX1_isPrime 51 = .ok (.if_icmp .le 7, 3) := by decide +kernel
theorem dX1_isPrime_54 : decode cX1_isPrime 54 = .ok (.iconst 1, 1) := by decide +kernel
theorem dX1_isPrime_55 : decode cX1_isPrime 55 = .ok (.goto 4, 3) := by decide +kernel
theorem dX1_isPrime_58 : decode cX1_isPrime 58 = .ok (.iconst 0, 1) := by decide +kernel
theorem dX1_isPrime_59 : decode cX1_isPrime 59 = .ok (.ireturn, 1) := by decide +kernel
theorem dX1_take_0 : decode cX1_take 0 = .ok (.aload_n 0, 1) := by decide +kernel
theorem dX1_take_1 : decode cX1_take 1 = .ok (.iload_n 1, 1) := by decide +kernel
theorem dX1_take_2 : decode cX1_take 2 = .ok (.i2l, 1) := by decide +kernel
theorem dX1_take_3 : decode cX1_take 3 = .ok (.lconst 1, 1) := by decide +kernel
theorem dX1_take_4 : decode cX1_take 4 = .ok (.ldc2_w 32, 3) := by decide +kernel
theorem dX1_take_7 : decode cX1_take 7 = .ok (.invokestatic 34, 3) := by decide +kernel
theorem dX1_take_10 : decode cX1_take 10 = .ok (.ifCond .eq 7, 3) := by decide +kernel
theorem dX1_take_13 : decode cX1_take 13 = .ok (.iconst 0, 1) := by decide +kernel
theorem dX1_take_14 : decode cX1_take 14 = .ok (.goto 4, 3) := by decide +kernel
theorem dX1_take_17 : decode cX1_take 17 = .ok (.iconst 1, 1) := by decide +kernel
theorem dX1_take_18 : decode cX1_take 18 = .ok (.putfield 29, 3) := by decide +kernel
theorem dX1_take_21 : decode cX1_take 21 = .ok (.aload_n 0, 1) := by decide +kernel
theorem dX1_take_22 : decode cX1_take 22 = .ok (.getfield 29, 3) := by decide +kernel
theorem dX1_take_25 : decode cX1_take 25 = .ok (.ifCond .le 5, 3) := by decide +kernel
theorem dX1_take_28 : decode cX1_take 28 = .ok (.iconst 0, 1) := by decide +kernel
theorem dX1_take_29 : decode cX1_take 29 = .ok (.ireturn, 1) := by decide +kernel
theorem dX1_take_30 : decode cX1_take 30 = .ok (.aload_n 0, 1) := by decide +kernel
theorem dX1_take_31 : decode cX1_take 31 = .ok (.iload_n 1, 1) := by decide +kernel
theorem dX1_take_32 : decode cX1_take 32 = .ok (.putfield 7, 3) := by decide +kernel
theorem dX1_take_35 : decode cX1_take 35 = .ok (.aload_n 0, 1) := by decide +kernel
theorem dX1_take_36 : decode cX1_take 36 = .ok (.iconst 0, 1) := by decide +kernel
theorem dX1_take_37 : decode cX1_take 37 = .ok (.putfield 38, 3) := by decide +kernel
theorem dX1_take_40 : decode cX1_take 40 = .ok (.aload_n 0, 1) := by decide +kernel
theorem dX1_take_41 : decode cX1_take 41 = .ok (.iconst 0, 1) := by decide +kernel
theorem dX1_take_42 : decode cX1_take 42 = .ok (.putfield 13, 3) := by decide +kernel
theorem dX1_take_45 : decode cX1_take 45 = .ok (.iconst 1, 1) := by decide +kernel
theorem dX1_take_46 : decode cX1_take 46 = .ok (.istore_n 2, 1) := by decide +kernel
theorem dX1_take_47 : decode cX1_take 47 = .ok (.iload_n 2, 1) := by decide +kernel
theorem dX1_take_48 : decode cX1_take 48 = .ok (.aload_n 0, 1) := by decide +kernel
theorem dX1_take_49 : decode cX1_take 49 = .ok (.getfield 7, 3) := by decide +kernel
theorem dX1_take_52 : decode cX1_take 52 = .ok (.if_icmp .gt 41, 3) := by decide +kernel
theorem dX1_take_55 : decode cX1_take 55 = .ok (.aload_n 0, 1) := by decide +kernel
theorem dX1_take_56 : decode cX1_take 56 = .ok (.getfield 7, 3) := by decide +kernel
theorem dX1_take_59 : decode cX1_take 59 = .ok (.iload_n 2, 1) := by decide +kernel
theorem dX1_take_60 : decode cX1_take 60 = .ok (.irem, 1) := by decide +kernel
theorem dX1_take_61 : decode cX1_take 61 = .ok (.ifCond .eq 6, 3) := by decide +kernel
theorem dX1_take_64 : decode cX1_take 64 = .ok (.goto 23, 3) := by decide +kernel
theorem dX1_take_67 : decode cX1_take 67 = .ok (.aload_n 0, 1) := by decide +kernel
theorem dX1_take_68 : decode cX1_take 68 = .ok (.getfield 16, 3) := by decide +kernel
theorem dX1_take_71 : decode cX1_take 71 = .ok (.aload_n 0, 1) := by decide +kernel
theorem dX1_take_72 : decode cX1_take 72 = .ok (.getfield 13, 3) := by decide +kernel
theorem dX1_take_75 : decode cX1_take 75 = .ok (.iload_n 2, 1) := by decide +kernel
theorem dX1_take_76 : decode cX1_take 76 = .ok (.iastore, 1) := by decide +kernel
theorem dX1_take_77 : decode cX1_take 77 = .ok (.aload_n 0, 1) := by decide +kernel
theorem dX1_take_78 : decode cX1_take 78 = .ok (.dup, 1) := by decide +kernel
theorem dX1_take_79 : decode cX1_take 79 = .ok (.getfield 13, 3) := by decide +kernel
theorem dX1_take_82 : decode cX1_take 82 = .ok (.iconst 1, 1) := by decide +kernel
theorem dX1_take_83 : decode cX1_take 83 = .ok (.iadd, 1) := by decide +kernel
theorem dX1_take_84 : decode cX1_take 84 = .ok (.putfield 13, 3) := by decide +kernel
theorem dX1_take_87 : decode cX1_take 87 = .ok (.iinc 2 1, 3) := by decide +kernel
theorem dX1_take_90 : decode cX1_take 90 = .ok (.goto (-43), 3) := by decide +kernel
theorem dX1_take_93 : decode cX1_take 93 = .ok (.aload_n 0, 1) := by decide +kernel
theorem dX1_take_94 : decode cX1_take 94 = .ok (.iconst 0, 1) := by decide +kernel
theorem dX1_take_95 : decode cX1_take 95 = .ok (.putfield 41, 3) := by decide +kernel
theorem dX1_take_98 : decode cX1_take 98 = .ok (.iconst 0, 1) := by decide +kernel
theorem dX1_take_99 : decode cX1_take 99 = .ok (.istore_n 2, 1) := by decide +kernel
theorem dX1_take_100 : decode cX1_take 100 = .ok (.iload_n 2, 1) := by decide +kernel
theorem dX1_take_101 : decode cX1_take 101 = .ok (.aload_n 0, 1) := by decide +kernel
theorem dX1_take_102 : decode cX1_take 102 = .ok (.getfield 13, 3) := by decide +kernel
theorem dX1_take_105 : decode cX1_take 105 = .ok (.if_icmp .ge 101, 3) := by decide +kernel
theorem dX1_take_108 : decode cX1_take 108 = .ok (.aload_n 0, 1) := by decide +kernel
theorem dX1_take_109 : decode cX1_take 109 = .ok (.aload_n 0, 1) := by decide +kernel
theorem dX1_take_110 : decode cX1_take 110 = .ok (.getfield 16, 3) := by decide +kernel
theorem dX1_take_113 : decode cX1_take 113 = .ok (.iload_n 2, 1) := by decide +kernel
theorem dX1_take_114 : decode cX1_take 114 = .ok (.iaload, 1) := by decide +kernel
theorem dX1_take_115 : decode cX1_take 115 = .ok (.invokevirtual 44, 3) := by decide +kernel
theorem dX1_take_118 : decode cX1_take 118 = .ok (.ifCond .ne 6, 3) := by decide +kernel
theorem dX1_take_121 : decode cX1_take 121 = .ok (.goto 79, 3) := by decide +kernel
theorem dX1_take_124 : decode cX1_take 124 = .ok (.aload_n 0, 1) := by decide +kernel
theorem dX1_take_125 : decode cX1_take 125 = .ok (.getfield 20, 3) := by decide +kernel
theorem dX1_take_128 : decode cX1_take 128 = .ok (.aload_n 0, 1) := by decide +kernel
theorem dX1_take_129 : decode cX1_take 129 = .ok (.getfield 41, 3) := by decide +kernel
theorem dX1_take_132 : decode cX1_take 132 = .ok (.aload_n 0, 1) := by decide +kernel
theorem dX1_take_133 : decode cX1_take 133 = .ok (.getfield 16, 3) := by decide +kernel
theorem dX1_take_136 : decode cX1_take 136 = .ok (.iload_n 2, 1) := by decide +kernel
theorem dX1_take_137 : decode cX1_take 137 = .ok (.iaload, 1) := by decide +kernel
theorem dX1_take_138 : decode cX1_take 138 = .ok (.iastore, 1) := by decide +kernel
theorem dX1_take_139 : decode cX1_take 139 = .ok (.aload_n 0, 1) := by decide +kernel
theorem dX1_take_140 : decode cX1_take 140 = .ok (.getfield 23, 3) := by decide +kernel
theorem dX1_take_143 : decode cX1_take 143 = .ok (.aload_n 0, 1) := by decide +kernel
theorem dX1_take_144 : decode cX1_take 144 = .ok (.getfield 41, 3) := by decide +kernel
theorem dX1_take_147 : decode cX1_take 147 = .ok (.iconst 0, 1) := by decide +kernel
theorem dX1_take_148 : decode cX1_take 148 = .ok (.iastore, 1) := by decide +kernel
theorem dX1_take_149 : decode cX1_take 149 = .ok (.aload_n 0, 1) := by decide +kernel
theorem dX1_take_150 : decode cX1_take 150 = .ok (.getfield 7, 3) := by decide +kernel
theorem dX1_take_153 : decode cX1_take 153 = .ok (.istore_n 3, 1) := by decide +kernel
theorem dX1_take_154 : decode cX1_take 154 = .ok (.iload_n 3, 1) := by decide +kernel
theorem dX1_take_155 : decode cX1_take 155 = .ok (.aload_n 0, 1) := by decide +kernel
theorem dX1_take_156 : decode cX1_take 156 = .ok (.getfield 16, 3) := by decide +kernel
theorem dX1_take_159 : decode cX1_take 159 = .ok (.iload_n 2, 1) := by decide +kernel
theorem dX1_take_160 : decode cX1_take 160 = .ok (.iaload, 1) := by decide +kernel
theorem dX1_take_161 : decode cX1_take 161 = .ok (.irem, 1) := by decide +kernel
theorem dX1_take_162 : decode cX1_take 162 = .ok (.ifCond .ne 28, 3) := by decide +kernel
theorem dX1_take_165 : decode cX1_take 165 = .ok (.aload_n 0, 1) := by decide +kernel
theorem dX1_take_166 : decode cX1_take 166 = .ok (.getfield 23, 3) := by decide +kernel
theorem dX1_take_169 : decode cX1_take 169 = .ok (.aload_n 0, 1) := by decide +kernel
theorem dX1_take_170 : decode cX1_take 170 = .ok (.getfield 41, 3) := by decide +kernel
theorem dX1_take_173 : decode cX1_take 173 = .ok (.dup2, 1) := by decide +kernel
theorem dX1_take_174 : decode cX1_take 174 = .ok (.iaload, 1) := by decide +kernel
theorem dX1_take_175 : decode cX1_take 175 = .ok (.iconst 1, 1) := by decide +kernel
theorem dX1_take_176 : decode cX1_take 176 = .ok (.iadd, 1) := by decide +kernel
theorem dX1_take_177 : decode cX1_take 177 = .ok (.iastore, 1) := by decide +kernel
theorem dX1_take_178 : decode cX1_take 178 = .ok (.iload_n 3, 1) := by decide +kernel
theorem dX1_take_179 : decode cX1_take 179 = .ok (.aload_n 0, 1) := by decide +kernel
theorem dX1_take_180 : decode cX1_take 180 = .ok (.getfield 16, 3) := by decide +kernel
theorem dX1_take_183 : decode cX1_take 183 = .ok (.iload_n 2, 1) := by decide +kernel
theorem dX1_take_184 : decode cX1_take 184 = .ok (.iaload, 1) := by decide +kernel
theorem dX1_take_185 : decode cX1_take 185 = .ok (.idiv, 1) := by decide +kernel
theorem dX1_take_186 : decode cX1_take 186 = .ok (.istore_n 3, 1) := by decide +kernel
theorem dX1_take_187 : decode cX1_take 187 = .ok (.goto (-33), 3) := by decide +kernel
theorem dX1_take_190 : decode cX1_take 190 = .ok (.aload_n 0, 1) := by decide +kernel
theorem dX1_take_191 : decode cX1_take 191 = .ok (.dup, 1) := by decide +kernel
theorem dX1_take_192 : decode cX1_take 192 = .ok (.getfield 41, 3) := by decide +kernel
theorem dX1_take_195 : decode cX1_take 195 = .ok (.iconst 1, 1) := by decide +kernel
theorem dX1_take_196 : decode cX1_take 196 = .ok (.iadd, 1) := by decide +kernel
theorem dX1_take_197 : decode cX1_take 197 = .ok (.putfield 41, 3) := by decide +kernel
theorem dX1_take_200 : decode cX1_take 200 = .ok (.iinc 2 1, 3) := by decide +kernel
theorem dX1_take_203 : decode cX1_take 203 = .ok (.goto (-103), 3) := by decide +kernel
theorem dX1_take_206 : decode cX1_take 206 = .ok (.aload_n 0, 1) := by decide +kernel
theorem dX1_take_207 : decode cX1_take 207 = .ok (.getfield 41, 3) := by decide +kernel
theorem dX1_take_210 : decode cX1_take 210 = .ok (.ireturn, 1) := by decide +kernel
theorem dX1_prime_0 : decode cX1_prime 0 = .ok (.aload_n 0, 1) := by decide +kernel
theorem dX1_prime_1 : decode cX1_prime 1 = .ok (.iload_n 1, 1) := by decide +kernel
theorem dX1_prime_2 : decode cX1_prime 2 = .ok (.i2l, 1) := by decide +kernel
theorem dX1_prime_3 : decode cX1_prime 3 = .ok (.lconst 0, 1) := by decide +kernel
theorem dX1_prime_4 : decode cX1_prime 4 = .ok (.aload_n 0, 1) := by decide +kernel
theorem dX1_prime_5 : decode cX1_prime 5 = .ok (.getfield 41, 3) := by decide +kernel
theorem dX1_prime_8 : decode cX1_prime 8 = .ok (.iconst 1, 1) := by decide +kernel
