theorem dX0_addPrime_0 : decode cX0_addPrime 0 = .ok (.aload_n 0, 1) := by decide +kernel
theorem dX0_addPrime_1 : decode cX0_addPrime 1 = .ok (.getfield 29, 3) := by decide +kernel
theorem dX0_addPrime_4 : decode cX0_addPrime 4 = .ok (.bipush 7, 2) := by decide +kernel
theorem dX0_addPrime_6 : decode cX0_addPrime 6 = .ok (.if_icmp .ge 33, 3) := by decide +kernel
theorem dX0_addPrime_9 : decode cX0_addPrime 9 = .ok (.aload_n 0, 1) := by decide +kernel
theorem dX0_addPrime_10 : decode cX0_addPrime 10 = .ok (.getfield 9, 3) := by decide +kernel
theorem dX0_addPrime_13 : decode cX0_addPrime 13 = .ok (.aload_n 0, 1) := by decide +kernel
theorem dX0_addPrime_14 : decode cX0_addPrime 14 = .ok (.getfield 29, 3) := by decide +kernel
theorem dX0_addPrime_17 : decode cX0_addPrime 17 = .ok (.iload_n 1, 1) := by decide +kernel
theorem dX0_addPrime_18 : decode cX0_addPrime 18 = .ok (.iastore, 1) := by decide +kernel
theorem dX0_addPrime_19 : decode cX0_addPrime 19 = .ok (.aload_n 0, 1) := by decide +kernel
theorem dX0_addPrime_20 : decode cX0_addPrime 20 = .ok (.getfield 13, 3) := by decide +kernel
theorem dX0_addPrime_23 : decode cX0_addPrime 23 = .ok (.aload_n 0, 1) := by decide +kernel
theorem dX0_addPrime_24 : decode cX0_addPrime 24 = .ok (.getfield 29, 3) := by decide +kernel
theorem dX0_addPrime_27 : decode cX0_addPrime 27 = .ok (.iload_n 2, 1) := by decide +kernel
theorem dX0_addPrime_28 : decode cX0_addPrime 28 = .ok (.iastore, 1) := by decide +kernel
theorem dX0_addPrime_29 : decode cX0_addPrime 29 = .ok (.aload_n 0, 1) := by decide +kernel
theorem dX0_addPrime_30 : decode cX0_addPrime 30 = .ok (.dup, 1) := by decide +kernel
theorem dX0_addPrime_31 : decode cX0_addPrime 31 = .ok (.getfield 29, 3) := by decide +kernel
theorem dX0_addPrime_34 : decode cX0_addPrime 34 = .ok (.iconst 1, 1) := by decide +kernel
theorem dX0_addPrime_35 : decode cX0_addPrime 35 = .ok (.iadd, 1) := by decide +kernel
theorem dX0_addPrime_36 : decode cX0_addPrime 36 = .ok (.putfield 29, 3) := by decide +kernel
theorem dX0_addPrime_39 : decode cX0_addPrime 39 = .ok (.return_, 1) := by decide +kernel
theorem dX0_findPrimes_0 : decode cX0_findPrimes 0 = .ok (.aload_n 0, 1) := by decide +kernel
theorem dX0_findPrimes_1 : decode cX0_findPrimes 1 = .ok (.getfield 25, 3) := by decide +kernel
theorem dX0_findPrimes_4 : decode cX0_findPrimes 4 = .ok (.istore_n 1, 1) := by decide +kernel
theorem dX0_findPrimes_5 : decode cX0_findPrimes 5 = .ok (.aload_n 0, 1) := by decide +kernel
theorem dX0_findPrimes_6 : decode cX0_findPrimes 6 = .ok (.iconst 0, 1) := by decide +kernel
theorem dX0_findPrimes_7 : decode cX0_findPrimes 7 = .ok (.putfield 29, 3) := by decide +kernel
theorem dX0_findPrimes_10 : decode cX0_findPrimes 10 = .ok (.iconst 2, 1) := by decide +kernel
theorem dX0_findPrimes_11 : decode cX0_findPrimes 11 = .ok (.istore_n 2, 1) := by decide +kernel
theorem dX0_findPrimes_12 : decode cX0_findPrimes 12 = .ok (.iload_n 2, 1) := by decide +kernel
theorem dX0_findPrimes_13 : decode cX0_findPrimes 13 = .ok (.sipush 2048, 3) := by decide +kernel
theorem dX0_findPrimes_16 : decode cX0_findPrimes 16 = .ok (.if_icmp .gt 50, 3) := by decide +kernel
theorem dX0_findPrimes_19 : decode cX0_findPrimes 19 = .ok (.iload_n 2, 1) := by decide +kernel
theorem dX0_findPrimes_20 : decode cX0_findPrimes 20 = .ok (.iload_n 2, 1) := by decide +kernel
theorem dX0_findPrimes_21 : decode cX0_findPrimes 21 = .ok (.imul, 1) := by decide +kernel
theorem dX0_findPrimes_22 : decode cX0_findPrimes 22 = .ok (.iload_n 1, 1) := by decide +kernel
theorem dX0_findPrimes_23 : decode cX0_findPrimes 23 = .ok (.if_icmp .gt 43, 3) := by decide +kernel
theorem dX0_findPrimes_26 : decode cX0_findPrimes 26 = .ok (.iconst 0, 1) := by decide +kernel
theorem dX0_findPrimes_27 : decode cX0_findPrimes 27 = .ok (.istore_n 3, 1) := by decide +kernel
theorem dX0_findPrimes_28 : decode cX0_findPrimes 28 = .ok (.iload_n 3, 1) := by decide +kernel
theorem dX0_findPrimes_29 : decode cX0_findPrimes 29 = .ok (.bipush 22, 2) := by decide +kernel
theorem dX0_findPrimes_31 : decode cX0_findPrimes 31 = .ok (.if_icmp .ge 19, 3) := by decide +kernel
theorem dX0_findPrimes_34 : decode cX0_findPrimes 34 = .ok (.iload_n 1, 1) := by decide +kernel
theorem dX0_findPrimes_35 : decode cX0_findPrimes 35 = .ok (.iload_n 2, 1) := by decide +kernel
theorem dX0_findPrimes_36 : decode cX0_findPrimes 36 = .ok (.irem, 1) := by decide +kernel
theorem dX0_findPrimes_37 : decode cX0_findPrimes 37 = .ok (.ifCond .ne 13, 3) := by decide +kernel
theorem dX0_findPrimes_40 : decode cX0_findPrimes 40 = .ok (.iload_n 1, 1) := by decide +kernel
theorem dX0_findPrimes_41 : decode cX0_findPrimes 41 = .ok (.iload_n 2, 1) := by decide +kernel
theorem dX0_findPrimes_42 : decode cX0_findPrimes 42 = .ok (.idiv, 1) := by decide +kernel
theorem dX0_findPrimes_43 : decode cX0_findPrimes 43 = .ok (.istore_n 1, 1) := by decide +kernel
theorem dX0_findPrimes_44 : decode cX0_findPrimes 44 = .ok (.iinc 3 1, 3) := by decide +kernel
theorem dX0_findPrimes_47 : decode cX0_findPrimes 47 = .ok (.goto (-19), 3) := by decide +kernel
theorem dX0_findPrimes_50 : decode cX0_findPrimes 50 = .ok (.iload_n 3, 1) := by decide +kernel
theorem dX0_findPrimes_51 : decode cX0_findPrimes 51 = .ok (.ifCond .le 9, 3) := by decide +kernel
theorem dX0_findPrimes_54 : decode cX0_findPrimes 54 = .ok (.aload_n 0, 1) := by decide +kernel
theorem dX0_findPrimes_55 : decode cX0_findPrimes 55 = .ok (.iload_n 2, 1) := by decide +kernel
theorem dX0_findPrimes_56 : decode cX0_findPrimes 56 = .ok (.iload_n 3, 1) := by decide +kernel
theorem dX0_findPrimes_57 : decode cX0_findPrimes 57 = .ok (.invokevirtual 109, 3) := by decide +kernel
theorem dX0_findPrimes_60 : decode cX0_findPrimes 60 = .ok (.iinc 2 1, 3) := by decide +kernel
theorem dX0_findPrimes_63 : decode cX0_findPrimes 63 = .ok (.goto (-51), 3) := by decide +kernel
theorem dX0_findPrimes_66 : decode cX0_findPrimes 66 = .ok (.iload_n 1, 1) := by decide +kernel
theorem dX0_findPrimes_67 : decode cX0_findPrimes 67 = .ok (.iconst 1, 1) := by decide +kernel
theorem dX0_findPrimes_68 : decode cX0_findPrimes 68 = .ok (.if_icmp .le 9, 3) := by decide +kernel
theorem dX0_findPrimes_71 : decode cX0_findPrimes 71 = .ok (.aload_n 0, 1) := by decide +kernel
theorem dX0_findPrimes_72 : decode cX0_findPrimes 72 = .ok (.iload_n 1, 1) := by decide +kernel
theorem dX0_findPrimes_73 : decode cX0_findPrimes 73 = .ok (.iconst 1, 1) := by decide +kernel
theorem dX0_findPrimes_74 : decode cX0_findPrimes 74 = .ok (.invokevirtual 109, 3) := by decide +kernel
theorem dX0_findPrimes_77 : decode cX0_findPrimes 77 = .ok (.return_, 1) := by decide +kernel
theorem dX0_addMultiples_0 : decode cX0_addMultiples 0 = .ok (.iconst 0, 1) := by decide +kernel
theorem dX0_addMultiples_1 : decode cX0_addMultiples 1 = .ok (.istore_n 3, 1) := by decide +kernel
theorem dX0_addMultiples_2 : decode cX0_addMultiples 2 = .ok (.iload_n 3, 1) := by decide +kernel
theorem dX0_addMultiples_3 : decode cX0_addMultiples 3 = .ok (.iload_n 1, 1) := by decide +kernel
theorem dX0_addMultiples_4 : decode cX0_addMultiples 4 = .ok (.if_icmp .ge 46, 3) := by decide +kernel
theorem dX0_addMultiples_7 : decode cX0_addMultiples 7 = .ok (.aload_n 0, 1) := by decide +kernel
theorem dX0_addMultiples_8 : decode cX0_addMultiples 8 = .ok (.getfield 32, 3) := by decide +kernel
theorem dX0_addMultiples_11 : decode cX0_addMultiples 11 = .ok (.sipush 360, 3) := by decide +kernel
theorem dX0_addMultiples_14 : decode cX0_addMultiples 14 = .ok (.if_icmp .ge 36, 3) := by decide +kernel
theorem dX0_addMultiples_17 : decode cX0_addMultiples 17 = .ok (.aload_n 0, 1) := by decide +kernel
theorem dX0_addMultiples_18 : decode cX0_addMultiples 18 = .ok (.getfield 16, 3) := by decide +kernel
theorem dX0_addMultiples_21 : decode cX0_addMultiples 21 = .ok (.aload_n 0, 1) := by decide +kernel
theorem dX0_addMultiples_22 : decode cX0_addMultiples 22 = .ok (.getfield 32, 3) := by decide +kernel
theorem dX0_addMultiples_25 : decode cX0_addMultiples 25 = .ok (.aload_n 0, 1) := by decide +kernel
theorem dX0_addMultiples_26 : decode cX0_addMultiples 26 = .ok (.getfield 16, 3) := by decide +kernel
theorem dX0_addMultiples_29 : decode cX0_addMultiples 29 = .ok (.iload_n 3, 1) := by decide +kernel
theorem dX0_addMultiples_30 : decode cX0_addMultiples 30 = .ok (.iaload, 1) := by decide +kernel
theorem dX0_addMultiples_31 : decode cX0_addMultiples 31 = .ok (.iload_n 2, 1) := by decide +kernel
theorem dX0_addMultiples_32 : decode cX0_addMultiples 32 = .ok (.imul, 1) := by decide +kernel
theorem dX0_addMultiples_33 : decode cX0_addMultiples 33 = .ok (.iastore, 1) := by decide +kernel
theorem dX0_addMultiples_34 : decode cX0_addMultiples 34 = .ok (.aload_n 0, 1) := by decide +kernel
theorem dX0_addMultiples_35 : decode cX0_addMultiples 35 = .ok (.dup, 1) := by decide +kernel
theorem dX0_addMultiples_36 : decode cX0_addMultiples 36 = .ok (.getfield 32, 3) := by decide +kernel
theorem dX0_addMultiples_39 : decode cX0_addMultiples 39 = .ok (.iconst 1, 1) := by decide +kernel
theorem dX0_addMultiples_40 : decode cX0_addMultiples 40 = .ok (.iadd, 1) := by decide +kernel
theorem dX0_addMultiples_41 : decode cX0_addMultiples 41 = .ok (.putfield 32, 3) := by decide +kernel
theorem dX0_addMultiples_44 : decode cX0_addMultiples 44 = .ok (.iinc 3 1, 3) := by decide +kernel
theorem dX0_addMultiples_47 : decode cX0_addMultiples 47 = .ok (.goto (-45), 3) := by decide +kernel
theorem dX0_addMultiples_50 : decode cX0_addMultiples 50 = .ok (.return_, 1) := by decide +kernel
theorem dX0_isRising_0 : decode cX0_isRising 0 = .ok (.iconst 1, 1) := by decide +kernel
theorem dX0_isRising_1 : decode cX0_isRising 1 = .ok (.istore_n 2, 1) := by decide +kernel
theorem dX0_isRising_2 : decode cX0_isRising 2 = .ok (.iload_n 2, 1) := by decide +kernel
theorem dX0_isRising_3 : decode cX0_isRising 3 = .ok (.iload_n 1, 1) := by decide +kernel
theorem dX0_isRising_4 : decode cX0_isRising 4 = .ok (.if_icmp .ge 22, 3) := by decide +kernel
theorem dX0_isRising_7 : decode cX0_isRising 7 = .ok (.aload_n 0, 1) := by decide +kernel
theorem dX0_isRising_8 : decode cX0_isRising 8 = .ok (.iload_n 2, 1) := by decide +kernel
theorem dX0_isRising_9 : decode cX0_isRising 9 = .ok (.iconst 1, 1) := by decide +kernel
theorem dX0_isRising_10 : decode cX0_isRising 10 = .ok (.isub, 1) := by decide +kernel
theorem dX0_isRising_11 : decode cX0_isRising 11 = .ok (.iaload, 1) := by decide +kernel
theorem dX0_isRising_12 : decode cX0_isRising 12 = .ok (.aload_n 0, 1) := by decide +kernel
theorem dX0_isRising_13 : decode cX0_isRising 13 = .ok (.iload_n 2, 1) := by decide +kernel
theorem dX0_isRising_14 : decode cX0_isRising 14 = .ok (.iaload, 1) := by decide +kernel
theorem dX0_isRising_15 : decode cX0_isRising 15 = .ok (.if_icmp .le 5, 3) := by decide +kernel
theorem dX0_isRising_18 : decode cX0_isRising 18 = .ok (.iconst 0, 1) := by decide +kernel
theorem dX0_isRising_19 : decode cX0_isRising 19 = .ok (.ireturn, 1) := by decide +kernel
theorem dX0_isRising_20 : decode cX0_isRising 20 = .ok (.iinc 2 1, 3) := by decide +kernel
theorem dX0_isRising_23 : decode cX0_isRising 23 = .ok (.goto (-21), 3) := by decide +kernel
theorem dX0_isRising_26 : decode cX0_isRising 26 = .ok (.iconst 1, 1) := by decide +kernel
theorem dX0_isRising_27 : decode cX0_isRising 27 = .ok (.ireturn, 1) := by decide +kernel
theorem dX0_mergeRuns_0 : decode cX0_mergeRuns 0 = .ok (.iload_n 2, 1) := by decide +kernel
theorem dX0_mergeRuns_1 : decode cX0_mergeRuns 1 = .ok (.istore 5, 2) := by decide +kernel
theorem dX0_mergeRuns_3 : decode cX0_mergeRuns 3 = .ok (.iload_n 3, 1) := by decide +kernel
theorem dX0_mergeRuns_4 : decode cX0_mergeRuns 4 = .ok (.istore 6, 2) := by decide +kernel
theorem dX0_mergeRuns_6 : decode cX0_mergeRuns 6 = .ok (.iload_n 2, 1) := by decide +kernel
theorem dX0_mergeRuns_7 : decode cX0_mergeRuns 7 = .ok (.istore 7, 2) := by decide +kernel
theorem dX0_mergeRuns_9 : decode cX0_mergeRuns 9 = .ok (.iload 7, 2) := by decide +kernel
theorem dX0_mergeRuns_11 : decode cX0_mergeRuns 11 = .ok (.iload 4, 2) := by decide +kernel
theorem dX0_mergeRuns_13 : decode cX0_mergeRuns 13 = .ok (.if_icmp .ge 58, 3) := by decide +kernel
theorem dX0_mergeRuns_16 : decode cX0_mergeRuns 16 = .ok (.iload 6, 2) := by decide +kernel
theorem dX0_mergeRuns_18 : decode cX0_mergeRuns 18 = .ok (.iload 4, 2) := by decide +kernel
theorem dX0_mergeRuns_20 : decode cX0_mergeRuns 20 = .ok (.if_icmp .ge 20, 3) := by decide +kernel
theorem dX0_mergeRuns_23 : decode cX0_mergeRuns 23 = .ok (.iload 5, 2) := by decide +kernel
theorem dX0_mergeRuns_25 : decode cX0_mergeRuns 25 = .ok (.iload_n 3, 1) := by decide +kernel
theorem dX0_mergeRuns_26 : decode cX0_mergeRuns 26 = .ok (.if_icmp .ge 28, 3) := by decide +kernel
theorem dX0_mergeRuns_29 : decode cX0_mergeRuns 29 = .ok (.aload_n 0, 1) := by decide +kernel
theorem dX0_mergeRuns_30 : decode cX0_mergeRuns 30 = .ok (.iload 5, 2) := by decide +kernel
theorem dX0_mergeRuns_32 : decode cX0_mergeRuns 32 = .ok (.iaload, 1) := by decide +kernel
theorem dX0_mergeRuns_33 : decode cX0_mergeRuns 33 = .ok (.aload_n 0, 1) := by decide +kernel
theorem dX0_mergeRuns_34 : decode cX0_mergeRuns 34 = .ok (.iload 6, 2) := by decide +kernel
theorem dX0_mergeRuns_36 : decode cX0_mergeRuns 36 = .ok (.iaload, 1) := by decide +kernel
theorem dX0_mergeRuns_37 : decode cX0_mergeRuns 37 = .ok (.if_icmp .gt 17, 3) := by decide +kernel
theorem dX0_mergeRuns_40 : decode cX0_mergeRuns 40 = .ok (.aload_n 1, 1) := by decide +kernel
theorem dX0_mergeRuns_41 : decode cX0_mergeRuns 41 = .ok (.iload 7, 2) := by decide +kernel
theorem dX0_mergeRuns_43 : decode cX0_mergeRuns 43 = .ok (.aload_n 0, 1) := by decide +kernel
theorem dX0_mergeRuns_44 : decode cX0_mergeRuns 44 = .ok (.iload 5, 2) := by decide +kernel
theorem dX0_mergeRuns_46 : decode cX0_mergeRuns 46 = .ok (.iaload, 1) := by decide +kernel
theorem dX0_mergeRuns_47 : decode cX0_mergeRuns 47 = .ok (.iastore, 1) := by decide +kernel
theorem dX0_mergeRuns_48 : decode cX0_mergeRuns 48 = .ok (.iinc 5 1, 3) := by decide +kernel
theorem dX0_mergeRuns_51 : decode cX0_mergeRuns 51 = .ok (.goto 14, 3) := by decide +kernel
theorem dX0_mergeRuns_54 : decode cX0_mergeRuns 54 = .ok (.aload_n 1, 1) := by decide +kernel
theorem dX0_mergeRuns_55 : decode cX0_mergeRuns 55 = .ok (.iload 7, 2) := by decide +kernel
theorem dX0_mergeRuns_57 : decode cX0_mergeRuns 57 = .ok (.aload_n 0, 1) := by decide +kernel
theorem dX0_mergeRuns_58 : decode cX0_mergeRuns 58 = .ok (.iload 6, 2) := by decide +kernel
theorem dX0_mergeRuns_60 : decode cX0_mergeRuns 60 = .ok (.iaload, 1) := by decide +kernel
theorem dX0_mergeRuns_61 : decode cX0_mergeRuns 61 = .ok (.iastore, 1) := by decide +kernel
theorem dX0_mergeRuns_62 : decode cX0_mergeRuns 62 = .ok (.iinc 6 1, 3) := by decide +kernel
theorem dX0_mergeRuns_65 : decode cX0_mergeRuns 65 = .ok (.iinc 7 1, 3) := by decide +kernel
theorem dX0_mergeRuns_68 : decode cX0_mergeRuns 68 = .ok (.goto (-59), 3) := by decide +kernel
theorem dX0_mergeRuns_71 : decode cX0_mergeRuns 71 = .ok (.return_, 1) := by decide +kernel
theorem dX0_sortRising_0 : decode cX0_sortRising 0 = .ok (.iload_n 2, 1) := by decide +kernel
theorem dX0_sortRising_1 : decode cX0_sortRising 1 = .ok (.aload_n 1, 1) := by decide +kernel
theorem dX0_sortRising_2 : decode cX0_sortRising 2 = .ok (.arraylength, 1) := by decide +kernel
theorem dX0_sortRising_3 : decode cX0_sortRising 3 = .ok (.if_icmp .gt 20, 3) := by decide +kernel
theorem dX0_sortRising_6 : decode cX0_sortRising 6 = .ok (.iload_n 2, 1) := by decide +kernel
theorem dX0_sortRising_7 : decode cX0_sortRising 7 = .ok (.aload_n 0, 1) := by decide +kernel
theorem dX0_sortRising_8 : decode cX0_sortRising 8 = .ok (.getfield 22, 3) := by decide +kernel
theorem dX0_sortRising_11 : decode cX0_sortRising 11 = .ok (.arraylength, 1) := by decide +kernel
theorem dX0_sortRising_12 : decode cX0_sortRising 12 = .ok (.if_icmp .gt 11, 3) := by decide +kernel
theorem dX0_sortRising_15 : decode cX0_sortRising 15 = .ok (.aload_n 1, 1) := by decide +kernel
theorem dX0_sortRising_16 : decode cX0_sortRising 16 = .ok (.iload_n 2, 1) := by decide +kernel
theorem dX0_sortRising_17 : decode cX0_sortRising 17 = .ok (.invokestatic 148, 3) := by decide +kernel
theorem dX0_sortRising_20 : decode cX0_sortRising 20 = .ok (.ifCond .eq 4, 3) := by decide +kernel
theorem dX0_sortRising_23 : decode cX0_sortRising 23 = .ok (.return_, 1) := by decide +kernel
theorem dX0_sortRising_24 : decode cX0_sortRising 24 = .ok (.iconst 1, 1) := by decide +kernel
theorem dX0_sortRising_25 : decode cX0_sortRising 25 = .ok (.istore_n 3, 1) := by decide +kernel
theorem dX0_sortRising_26 : decode cX0_sortRising 26 = .ok (.iload_n 3, 1) := by decide +kernel
theorem dX0_sortRising_27 : decode cX0_sortRising 27 = .ok (.iload_n 2, 1) := by decide +kernel
theorem dX0_sortRising_28 : decode cX0_sortRising 28 = .ok (.if_icmp .ge 75, 3) := by decide +kernel
theorem dX0_sortRising_31 : decode cX0_sortRising 31 = .ok (.iconst 0, 1) := by decide +kernel
theorem dX0_sortRising_32 : decode cX0_sortRising 32 = .ok (.istore 4, 2) := by decide +kernel
theorem dX0_sortRising_34 : decode cX0_sortRising 34 = .ok (.iload 4, 2) := by decide +kernel
theorem dX0_sortRising_36 : decode cX0_sortRising 36 = .ok (.iload_n 2, 1) := by decide +kernel
theorem dX0_sortRising_37 : decode cX0_sortRising 37 = .ok (.if_icmp .ge 48, 3) := by decide +kernel
theorem dX0_sortRising_40 : decode cX0_sortRising 40 = .ok (.iload 4, 2) := by decide +kernel
theorem dX0_sortRising_42 : decode cX0_sortRising 42 = .ok (.iload_n 3, 1) := by decide +kernel
theorem dX0_sortRising_43 : decode cX0_sortRising 43 = .ok (.iadd, 1) := by decide +kernel
theorem dX0_sortRising_44 : decode cX0_sortRising 44 = .ok (.iload_n 2, 1) := by decide +kernel
theorem dX0_sortRising_45 : decode cX0_sortRising 45 = .ok (.invokestatic 152, 3) := by decide +kernel
theorem dX0_sortRising_48 : decode cX0_sortRising 48 = .ok (.istore 5, 2) := by decide +kernel
theorem dX0_sortRising_50 : decode cX0_sortRising 50 = .ok (.iload 5, 2) := by decide +kernel
theorem dX0_sortRising_52 : decode cX0_sortRising 52 = .ok (.iload_n 3, 1) := by decide +kernel
theorem dX0_sortRising_53 : decode cX0_sortRising 53 = .ok (.iadd, 1) := by decide +kernel
theorem dX0_sortRising_54 : decode cX0_sortRising 54 = .ok (.iload_n 2, 1) := by decide +kernel
theorem dX0_sortRising_55 : decode cX0_sortRising 55 = .ok (.invokestatic 152, 3) := by decide +kernel
theorem dX0_sortRising_58 : decode cX0_sortRising 58 = .ok (.istore 6, 2) := by decide +kernel
theorem dX0_sortRising_60 : decode cX0_sortRising 60 = .ok (.aload_n 1, 1) := by decide +kernel
theorem dX0_sortRising_61 : decode cX0_sortRising 61 = .ok (.aload_n 0, 1) := by decide +kernel
theorem dX0_sortRising_62 : decode cX0_sortRising 62 = .ok (.getfield 22, 3) := by decide +kernel
theorem dX0_sortRising_65 : decode cX0_sortRising 65 = .ok (.iload 4, 2) := by decide +kernel
theorem dX0_sortRising_67 : decode cX0_sortRising 67 = .ok (.iload 5, 2) := by decide +kernel
theorem dX0_sortRising_69 : decode cX0_sortRising 69 = .ok (.iload 6, 2) := by decide +kernel
theorem dX0_sortRising_71 : decode cX0_sortRising 71 = .ok (.invokestatic 157, 3) := by decide +kernel
theorem dX0_sortRising_74 : decode cX0_sortRising 74 = .ok (.iload 4, 2) := by decide +kernel
theorem dX0_sortRising_76 : decode cX0_sortRising 76 = .ok (.iconst 2, 1) := by decide +kernel
theorem dX0_sortRising_77 : decode cX0_sortRising 77 = .ok (.iload_n 3, 1) := by decide +kernel
theorem dX0_sortRising_78 : decode cX0_sortRising 78 = .ok (.imul, 1) := by decide +kernel
theorem dX0_sortRising_79 : decode cX0_sortRising 79 = .ok (.iadd, 1) := by decide +kernel
theorem dX0_sortRising_80 : decode cX0_sortRising 80 = .ok (.istore 4, 2) := by decide +kernel
theorem dX0_sortRising_82 : decode cX0_sortRising 82 = .ok (.goto (-48), 3) := by decide +kernel
theorem dX0_sortRising_85 : decode cX0_sortRising 85 = .ok (.aload_n 0, 1) := by decide +kernel
theorem dX0_sortRising_86 : decode cX0_sortRising 86 = .ok (.getfield 22, 3) := by decide +kernel
theorem dX0_sortRising_89 : decode cX0_sortRising 89 = .ok (.iconst 0, 1) := by decide +kernel
theorem dX0_sortRising_90 : decode cX0_sortRising 90 = .ok (.aload_n 1, 1) := by decide +kernel
theorem dX0_sortRising_91 : decode cX0_sortRising 91 = .ok (.iconst 0, 1) := by decide +kernel
theorem dX0_sortRising_92 : decode cX0_sortRising 92 = .ok (.iload_n 2, 1) := by decide +kernel
theorem dX0_sortRising_93 : decode cX0_sortRising 93 = .ok (.invokestatic 161, 3) := by decide +kernel
theorem dX0_sortRising_96 : decode cX0_sortRising 96 = .ok (.iload_n 3, 1) := by decide +kernel
theorem dX0_sortRising_97 : decode cX0_sortRising 97 = .ok (.iconst 2, 1) := by decide +kernel
theorem dX0_sortRising_98 : decode cX0_sortRising 98 = .ok (.imul, 1) := by decide +kernel
theorem dX0_sortRising_99 : decode cX0_sortRising 99 = .ok (.istore_n 3, 1) := by decide +kernel
theorem dX0_sortRising_100 : decode cX0_sortRising 100 = .ok (.goto (-74), 3) := by decide +kernel
theorem dX0_sortRising_103 : decode cX0_sortRising 103 = .ok (.return_, 1) := by decide +kernel
theorem dX0_findDivisors_0 : decode cX0_findDivisors 0 = .ok (.aload_n 0, 1) := by decide +kernel
theorem dX0_findDivisors_1 : decode cX0_findDivisors 1 = .ok (.getfield 16, 3) := by decide +kernel
theorem dX0_findDivisors_4 : decode cX0_findDivisors 4 = .ok (.iconst 0, 1) := by decide +kernel
theorem dX0_findDivisors_5 : decode cX0_findDivisors 5 = .ok (.iconst 1, 1) := by decide +kernel
theorem dX0_findDivisors_6 : decode cX0_findDivisors 6 = .ok (.iastore, 1) := by decide +kernel
theorem dX0_findDivisors_7 : decode cX0_findDivisors 7 = .ok (.aload_n 0, 1) := by decide +kernel
theorem dX0_findDivisors_8 : decode cX0_findDivisors 8 = .ok (.iconst 1, 1) := by decide +kernel
theorem dX0_findDivisors_9 : decode cX0_findDivisors 9 = .ok (.putfield 32, 3) := by decide +kernel
theorem dX0_findDivisors_12 : decode cX0_findDivisors 12 = .ok (.iconst 0, 1) := by decide +kernel
theorem dX0_findDivisors_13 : decode cX0_findDivisors 13 = .ok (.istore_n 1, 1) := by decide +kernel
theorem dX0_findDivisors_14 : decode cX0_findDivisors 14 = .ok (.iload_n 1, 1) := by decide +kernel
theorem dX0_findDivisors_15 : decode cX0_findDivisors 15 = .ok (.aload_n 0, 1) := by decide +kernel
theorem dX0_findDivisors_16 : decode cX0_findDivisors 16 = .ok (.getfield 29, 3) := by decide +kernel
theorem dX0_findDivisors_19 : decode cX0_findDivisors 19 = .ok (.if_icmp .ge 51, 3) := by decide +kernel
theorem dX0_findDivisors_22 : decode cX0_findDivisors 22 = .ok (.aload_n 0, 1) := by decide +kernel
theorem dX0_findDivisors_23 : decode cX0_findDivisors 23 = .ok (.getfield 32, 3) := by decide +kernel
theorem dX0_findDivisors_26 : decode cX0_findDivisors 26 = .ok (.istore_n 2, 1) := by decide +kernel
theorem dX0_findDivisors_27 : decode cX0_findDivisors 27 = .ok (.iconst 1, 1) := by decide +kernel
theorem dX0_findDivisors_28 : decode cX0_findDivisors 28 = .ok (.istore_n 3, 1) := by decide +kernel
theorem dX0_findDivisors_29 : decode cX0_findDivisors 29 = .ok (.iconst 0, 1) := by decide +kernel
theorem dX0_findDivisors_30 : decode cX0_findDivisors 30 = .ok (.istore 4, 2) := by decide +kernel
theorem dX0_findDivisors_32 : decode cX0_findDivisors 32 = .ok (.iload 4, 2) := by decide +kernel
theorem dX0_findDivisors_34 : decode cX0_findDivisors 34 = .ok (.aload_n 0, 1) := by decide +kernel
theorem dX0_findDivisors_35 : decode cX0_findDivisors 35 = .ok (.getfield 13, 3) := by decide +kernel
theorem dX0_findDivisors_38 : decode cX0_findDivisors 38 = .ok (.iload_n 1, 1) := by decide +kernel
theorem dX0_findDivisors_39 : decode cX0_findDivisors 39 = .ok (.iaload, 1) := by decide +kernel
theorem dX0_findDivisors_40 : decode cX0_findDivisors 40 = .ok (.if_icmp .ge 24, 3) := by decide +kernel
theorem dX0_findDivisors_43 : decode cX0_findDivisors 43 = .ok (.iload_n 3, 1) := by decide +kernel
theorem dX0_findDivisors_44 : decode cX0_findDivisors 44 = .ok (.aload_n 0, 1) := by decide +kernel
theorem dX0_findDivisors_45 : decode cX0_findDivisors 45 = .ok (.getfield 9, 3) := by decide +kernel
theorem dX0_findDivisors_48 : decode cX0_findDivisors 48 = .ok (.iload_n 1, 1) := by decide +kernel
theorem dX0_findDivisors_49 : decode cX0_findDivisors 49 = .ok (.iaload, 1) := by decide +kernel
theorem dX0_findDivisors_50 : decode cX0_findDivisors 50 = .ok (.imul, 1) := by decide +kernel
theorem dX0_findDivisors_51 : decode cX0_findDivisors 51 = .ok (.istore_n 3, 1) := by decide +kernel
theorem dX0_findDivisors_52 : decode cX0_findDivisors 52 = .ok (.aload_n 0, 1) := by decide +kernel
theorem dX0_findDivisors_53 : decode cX0_findDivisors 53 = .ok (.iload_n 2, 1) := by decide +kernel
theorem dX0_findDivisors_54 : decode cX0_findDivisors 54 = .ok (.iload_n 3, 1) := by decide +kernel
theorem dX0_findDivisors_55 : decode cX0_findDivisors 55 = .ok (.invokevirtual 113, 3) := by decide +kernel
theorem dX0_findDivisors_58 : decode cX0_findDivisors 58 = .ok (.iinc 4 1, 3) := by decide +kernel
theorem dX0_findDivisors_61 : decode cX0_findDivisors 61 = .ok (.goto (-29), 3) := by decide +kernel
theorem dX0_findDivisors_64 : decode cX0_findDivisors 64 = .ok (.iinc 1 1, 3) := by decide +kernel
theorem dX0_findDivisors_67 : decode cX0_findDivisors 67 = .ok (.goto (-53), 3) := by decide +kernel
theorem dX0_findDivisors_70 : decode cX0_findDivisors 70 = .ok (.aload_n 0, 1) := by decide +kernel
theorem dX0_findDivisors_71 : decode cX0_findDivisors 71 = .ok (.aload_n 0, 1) := by decide +kernel
theorem dX0_findDivisors_72 : decode cX0_findDivisors 72 = .ok (.getfield 16, 3) := by decide +kernel
theorem dX0_findDivisors_75 : decode cX0_findDivisors 75 = .ok (.aload_n 0, 1) := by decide +kernel
theorem dX0_findDivisors_76 : decode cX0_findDivisors 76 = .ok (.getfield 32, 3) := by decide +kernel
theorem dX0_findDivisors_79 : decode cX0_findDivisors 79 = .ok (.invokevirtual 103, 3) := by decide +kernel
theorem dX0_findDivisors_82 : decode cX0_findDivisors 82 = .ok (.return_, 1) := by decide +kernel
theorem dX0_take_0 : decode cX0_take 0 = .ok (.iload_n 1, 1) := by decide +kernel
theorem dX0_take_1 : decode cX0_take 1 = .ok (.iconst 1, 1) := by decide +kernel
theorem dX0_take_2 : decode cX0_take 2 = .ok (.if_icmp .lt 9, 3) := by decide +kernel
theorem dX0_take_5 : decode cX0_take 5 = .ok (.iload_n 1, 1) := by decide +kernel
theorem dX0_take_6 : decode cX0_take 6 = .ok (.ldc 38, 2) := by decide +kernel
theorem dX0_take_8 : decode cX0_take 8 = .ok (.if_icmp .le 13, 3) := by decide +kernel
theorem dX0_take_11 : decode cX0_take 11 = .ok (.new 39, 3) := by decide +kernel
theorem dX0_take_14 : decode cX0_take 14 = .ok (.dup, 1) := by decide +kernel
theorem dX0_take_15 : decode cX0_take 15 = .ok (.ldc 41, 2) := by decide +kernel
theorem dX0_take_17 : decode cX0_take 17 = .ok (.invokespecial 43, 3) := by decide +kernel
theorem dX0_take_20 : decode cX0_take 20 = .ok (.athrow, 1) := by decide +kernel
theorem dX0_take_21 : decode cX0_take 21 = .ok (.aload_n 0, 1) := by decide +kernel
theorem dX0_take_22 : decode cX0_take 22 = .ok (.iload_n 1, 1) := by decide +kernel
theorem dX0_take_23 : decode cX0_take 23 = .ok (.putfield 25, 3) := by decide +kernel
theorem dX0_take_26 : decode cX0_take 26 = .ok (.aload_n 0, 1) := by decide +kernel
theorem dX0_take_27 : decode cX0_take 27 = .ok (.iconst 0, 1) := by decide +kernel
theorem dX0_take_28 : decode cX0_take 28 = .ok (.putfield 35, 3) := by decide +kernel
theorem dX0_take_31 : decode cX0_take 31 = .ok (.aload_n 0, 1) := by decide +kernel
theorem dX0_take_32 : decode cX0_take 32 = .ok (.invokevirtual 46, 3) := by decide +kernel
theorem dX0_take_35 : decode cX0_take 35 = .ok (.aload_n 0, 1) := by decide +kernel
theorem dX0_take_36 : decode cX0_take 36 = .ok (.invokevirtual 49, 3) := by decide +kernel
theorem dX0_take_39 : decode cX0_take 39 = .ok (.aload_n 0, 1) := by decide +kernel
theorem dX0_take_40 : decode cX0_take 40 = .ok (.getfield 29, 3) := by decide +kernel
theorem dX0_take_43 : decode cX0_take 43 = .ok (.ireturn, 1) := by decide +kernel
theorem dX0_prime_0 : decode cX0_prime 0 = .ok (.iload_n 1, 1) := by decide +kernel
theorem dX0_prime_1 : decode cX0_prime 1 = .ok (.ifCond .lt 11, 3) := by decide +kernel
theorem dX0_prime_4 : decode cX0_prime 4 = .ok (.iload_n 1, 1) := by decide +kernel
theorem dX0_prime_5 : decode cX0_prime 5 = .ok (.aload_n 0, 1) := by decide +kernel
theorem dX0_prime_6 : decode cX0_prime 6 = .ok (.getfield 29, 3) := by decide +kernel
theorem dX0_prime_9 : decode cX0_prime 9 = .ok (.if_icmp .lt 13, 3) := by decide +kernel
theorem dX0_prime_12 : decode cX0_prime 12 = .ok (.new 52, 3) := by decide +kernel
theorem dX0_prime_15 : decode cX0_prime 15 = .ok (.dup, 1) := by decide +kernel
theorem dX0_prime_16 : decode cX0_prime 16 = .ok (.ldc 54, 2) := by decide +kernel
theorem dX0_prime_18 : decode cX0_prime 18 = .ok (.invokespecial 56, 3) := by decide +kernel
theorem dX0_prime_21 : decode cX0_prime 21 = .ok (.athrow, 1) := by decide +kernel
theorem dX0_prime_22 : decode cX0_prime 22 = .ok (.aload_n 0, 1) := by decide +kernel
theorem dX0_prime_23 : decode cX0_prime 23 = .ok (.getfield 9, 3) := by decide +kernel
theorem dX0_prime_26 : decode cX0_prime 26 = .ok (.iload_n 1, 1) := by decide +kernel
theorem dX0_prime_27 : decode cX0_prime 27 = .ok (.iaload, 1) := by decide +kernel
theorem dX0_prime_28 : decode cX0_prime 28 = .ok (.ireturn, 1) := by decide +kernel
theorem dX0_exponent_0 : decode cX0_exponent 0 = .ok (.iload_n 1, 1) := by decide +kernel
theorem dX0_exponent_1 : decode cX0_exponent 1 = .ok (.ifCond .lt 11, 3) := by decide +kernel
theorem dX0_exponent_4 : decode cX0_exponent 4 = .ok (.iload_n 1, 1) := by decide +kernel
theorem dX0_exponent_5 : decode cX0_exponent 5 = .ok (.aload_n 0, 1) := by decide +kernel
theorem dX0_exponent_6 : decode cX0_exponent 6 = .ok (.getfield 29, 3) := by decide +kernel
theorem dX0_exponent_9 : decode cX0_exponent 9 = .ok (.if_icmp .lt 13, 3) := by decide +kernel
theorem dX0_exponent_12 : decode cX0_exponent 12 = .ok (.new 52, 3) := by decide +kernel
theorem dX0_exponent_15 : decode cX0_exponent 15 = .ok (.dup, 1) := by decide +kernel
theorem dX0_exponent_16 : decode cX0_exponent 16 = .ok (.ldc 54, 2) := by decide +kernel
theorem dX0_exponent_18 : decode cX0_exponent 18 = .ok (.invokespecial 56, 3) := by decide +kernel
theorem dX0_exponent_21 : decode cX0_exponent 21 = .ok (.athrow, 1) := by decide +kernel
theorem dX0_exponent_22 : decode cX0_exponent 22 = .ok (.aload_n 0, 1) := by decide +kernel
theorem dX0_exponent_23 : decode cX0_exponent 23 = .ok (.getfield 13, 3) := by decide +kernel
theorem dX0_exponent_26 : decode cX0_exponent 26 = .ok (.iload_n 1, 1) := by decide +kernel
theorem dX0_exponent_27 : decode cX0_exponent 27 = .ok (.iaload, 1) := by decide +kernel
theorem dX0_exponent_28 : decode cX0_exponent 28 = .ok (.ireturn, 1) := by decide +kernel
theorem dX0_divisor_0 : decode cX0_divisor 0 = .ok (.iload_n 1, 1) := by decide +kernel
theorem dX0_divisor_1 : decode cX0_divisor 1 = .ok (.ifCond .lt 11, 3) := by decide +kernel
theorem dX0_divisor_4 : decode cX0_divisor 4 = .ok (.iload_n 1, 1) := by decide +kernel
theorem dX0_divisor_5 : decode cX0_divisor 5 = .ok (.aload_n 0, 1) := by decide +kernel
theorem dX0_divisor_6 : decode cX0_divisor 6 = .ok (.getfield 32, 3) := by decide +kernel
theorem dX0_divisor_9 : decode cX0_divisor 9 = .ok (.if_icmp .lt 13, 3) := by decide +kernel
theorem dX0_divisor_12 : decode cX0_divisor 12 = .ok (.new 52, 3) := by decide +kernel
theorem dX0_divisor_15 : decode cX0_divisor 15 = .ok (.dup, 1) := by decide +kernel
theorem dX0_divisor_16 : decode cX0_divisor 16 = .ok (.ldc 57, 2) := by decide +kernel
theorem dX0_divisor_18 : decode cX0_divisor 18 = .ok (.invokespecial 56, 3) := by decide +kernel
theorem dX0_divisor_21 : decode cX0_divisor 21 = .ok (.athrow, 1) := by decide +kernel
theorem dX0_divisor_22 : decode cX0_divisor 22 = .ok (.aload_n 0, 1) := by decide +kernel
theorem dX0_divisor_23 : decode cX0_divisor 23 = .ok (.getfield 16, 3) := by decide +kernel
theorem dX0_divisor_26 : decode cX0_divisor 26 = .ok (.iload_n 1, 1) := by decide +kernel
theorem dX0_divisor_27 : decode cX0_divisor 27 = .ok (.iaload, 1) := by decide +kernel
theorem dX0_divisor_28 : decode cX0_divisor 28 = .ok (.ireturn, 1) := by decide +kernel
theorem dX0_countCoprimes_0 : decode cX0_countCoprimes 0 = .ok (.iconst 1, 1) := by decide +kernel
theorem dX0_countCoprimes_1 : decode cX0_countCoprimes 1 = .ok (.istore_n 1, 1) := by decide +kernel
theorem dX0_countCoprimes_2 : decode cX0_countCoprimes 2 = .ok (.iconst 0, 1) := by decide +kernel
theorem dX0_countCoprimes_3 : decode cX0_countCoprimes 3 = .ok (.istore_n 2, 1) := by decide +kernel
theorem dX0_countCoprimes_4 : decode cX0_countCoprimes 4 = .ok (.iload_n 2, 1) := by decide +kernel
theorem dX0_countCoprimes_5 : decode cX0_countCoprimes 5 = .ok (.aload_n 0, 1) := by decide +kernel
theorem dX0_countCoprimes_6 : decode cX0_countCoprimes 6 = .ok (.getfield 29, 3) := by decide +kernel
theorem dX0_countCoprimes_9 : decode cX0_countCoprimes 9 = .ok (.if_icmp .ge 47, 3) := by decide +kernel
theorem dX0_countCoprimes_12 : decode cX0_countCoprimes 12 = .ok (.iload_n 1, 1) := by decide +kernel
theorem dX0_countCoprimes_13 : decode cX0_countCoprimes 13 = .ok (.aload_n 0, 1) := by decide +kernel
theorem dX0_countCoprimes_14 : decode cX0_countCoprimes 14 = .ok (.getfield 9, 3) := by decide +kernel
theorem dX0_countCoprimes_17 : decode cX0_countCoprimes 17 = .ok (.iload_n 2, 1) := by decide +kernel
theorem dX0_countCoprimes_18 : decode cX0_countCoprimes 18 = .ok (.iaload, 1) := by decide +kernel
theorem dX0_countCoprimes_19 : decode cX0_countCoprimes 19 = .ok (.iconst 1, 1) := by decide +kernel
theorem dX0_countCoprimes_20 : decode cX0_countCoprimes 20 = .ok (.isub, 1) := by decide +kernel
theorem dX0_countCoprimes_21 : decode cX0_countCoprimes 21 = .ok (.imul, 1) := by decide +kernel
theorem dX0_countCoprimes_22 : decode cX0_countCoprimes 22 = .ok (.istore_n 1, 1) := by decide +kernel
theorem dX0_countCoprimes_23 : decode cX0_countCoprimes 23 = .ok (.iconst 1, 1) := by decide +kernel
theorem dX0_countCoprimes_24 : decode cX0_countCoprimes 24 = .ok (.istore_n 3, 1) := by decide +kernel
theorem dX0_countCoprimes_25 : decode cX0_countCoprimes 25 = .ok (.iload_n 3, 1) := by decide +kernel
theorem dX0_countCoprimes_26 : decode cX0_countCoprimes 26 = .ok (.aload_n 0, 1) := by decide +kernel
theorem dX0_countCoprimes_27 : decode cX0_countCoprimes 27 = .ok (.getfield 13, 3) := by decide +kernel
theorem dX0_countCoprimes_30 : decode cX0_countCoprimes 30 = .ok (.iload_n 2, 1) := by decide +kernel
theorem dX0_countCoprimes_31 : decode cX0_countCoprimes 31 = .ok (.iaload, 1) := by decide +kernel
theorem dX0_countCoprimes_32 : decode cX0_countCoprimes 32 = .ok (.if_icmp .ge 18, 3) := by decide +kernel
theorem dX0_countCoprimes_35 : decode cX0_countCoprimes 35 = .ok (.iload_n 1, 1) := by decide +kernel
theorem dX0_countCoprimes_36 : decode cX0_countCoprimes 36 = .ok (.aload_n 0, 1) := by decide +kernel
theorem dX0_countCoprimes_37 : decode cX0_countCoprimes 37 = .ok (.getfield 9, 3) := by decide +kernel
theorem dX0_countCoprimes_40 : decode cX0_countCoprimes 40 = .ok (.iload_n 2, 1) := by decide +kernel
theorem dX0_countCoprimes_41 : decode cX0_countCoprimes 41 = .ok (.iaload, 1) := by decide +kernel
theorem dX0_countCoprimes_42 : decode cX0_countCoprimes 42 = .ok (.imul, 1) := by decide +kernel
theorem dX0_countCoprimes_43 : decode cX0_countCoprimes 43 = .ok (.istore_n 1, 1) := by decide +kernel
theorem dX0_countCoprimes_44 : decode cX0_countCoprimes 44 = .ok (.iinc 3 1, 3) := by decide +kernel
theorem dX0_countCoprimes_47 : decode cX0_countCoprimes 47 = .ok (.goto (-22), 3) := by decide +kernel
theorem dX0_countCoprimes_50 : decode cX0_countCoprimes 50 = .ok (.iinc 2 1, 3) := by decide +kernel
theorem dX0_countCoprimes_53 : decode cX0_countCoprimes 53 = .ok (.goto (-49), 3) := by decide +kernel
theorem dX0_countCoprimes_56 : decode cX0_countCoprimes 56 = .ok (.iload_n 1, 1) := by decide +kernel
theorem dX0_countCoprimes_57 : decode cX0_countCoprimes 57 = .ok (.ireturn, 1) := by decide +kernel
theorem dX0_greatestSquaredDivisor_0 : decode cX0_greatestSquaredDivisor 0 = .ok (.iconst 1, 1) := by decide +kernel
theorem dX0_greatestSquaredDivisor_1 : decode cX0_greatestSquaredDivisor 1 = .ok (.istore_n 1, 1) := by decide +kernel
theorem dX0_greatestSquaredDivisor_2 : decode cX0_greatestSquaredDivisor 2 = .ok (.iconst 0, 1) := by decide +kernel
theorem dX0_greatestSquaredDivisor_3 : decode cX0_greatestSquaredDivisor 3 = .ok (.istore_n 2, 1) := by decide +kernel
theorem dX0_greatestSquaredDivisor_4 : decode cX0_greatestSquaredDivisor 4 = .ok (.iload_n 2, 1) := by decide +kernel
theorem dX0_greatestSquaredDivisor_5 : decode cX0_greatestSquaredDivisor 5 = .ok (.aload_n 0, 1) := by decide +kernel
theorem dX0_greatestSquaredDivisor_6 : decode cX0_greatestSquaredDivisor 6 = .ok (.getfield 29, 3) := by decide +kernel
theorem dX0_greatestSquaredDivisor_9 : decode cX0_greatestSquaredDivisor 9 = .ok (.if_icmp .ge 36, 3) := by decide +kernel
theorem dX0_greatestSquaredDivisor_12 : decode cX0_greatestSquaredDivisor 12 = .ok (.iconst 2, 1) := by decide +kernel
theorem dX0_greatestSquaredDivisor_13 : decode cX0_greatestSquaredDivisor 13 = .ok (.istore_n 3, 1) := by decide +kernel
theorem dX0_greatestSquaredDivisor_14 : decode cX0_greatestSquaredDivisor 14 = .ok (.iload_n 3, 1) := by decide +kernel
theorem dX0_greatestSquaredDivisor_15 : decode cX0_greatestSquaredDivisor 15 = .ok (.aload_n 0, 1) := by decide +kernel
theorem dX0_greatestSquaredDivisor_16 : decode cX0_greatestSquaredDivisor 16 = .ok (.getfield 13, 3) := by decide +kernel
theorem dX0_greatestSquaredDivisor_19 : decode cX0_greatestSquaredDivisor 19 = .ok (.iload_n 2, 1) := by decide +kernel
theorem dX0_greatestSquaredDivisor_20 : decode cX0_greatestSquaredDivisor 20 = .ok (.iaload, 1) := by decide +kernel
theorem dX0_greatestSquaredDivisor_21 : decode cX0_greatestSquaredDivisor 21 = .ok (.if_icmp .gt 18, 3) := by decide +kernel
theorem dX0_greatestSquaredDivisor_24 : decode cX0_greatestSquaredDivisor 24 = .ok (.iload_n 1, 1) := by decide +kernel
theorem dX0_greatestSquaredDivisor_25 : decode cX0_greatestSquaredDivisor 25 = .ok (.aload_n 0, 1) := by decide +kernel
theorem dX0_greatestSquaredDivisor_26 : decode cX0_greatestSquaredDivisor 26 = .ok (.getfield 9, 3) := by decide +kernel
theorem dX0_greatestSquaredDivisor_29 : decode cX0_greatestSquaredDivisor 29 = .ok (.iload_n 2, 1) := by decide +kernel
theorem dX0_greatestSquaredDivisor_30 : decode cX0_greatestSquaredDivisor 30 = .ok (.iaload, 1) := by decide +kernel
theorem dX0_greatestSquaredDivisor_31 : decode cX0_greatestSquaredDivisor 31 = .ok (.imul, 1) := by decide +kernel
theorem dX0_greatestSquaredDivisor_32 : decode cX0_greatestSquaredDivisor 32 = .ok (.istore_n 1, 1) := by decide +kernel
theorem dX0_greatestSquaredDivisor_33 : decode cX0_greatestSquaredDivisor 33 = .ok (.iinc 3 2, 3) := by decide +kernel
theorem dX0_greatestSquaredDivisor_36 : decode cX0_greatestSquaredDivisor 36 = .ok (.goto (-22), 3) := by decide +kernel
theorem dX0_greatestSquaredDivisor_39 : decode cX0_greatestSquaredDivisor 39 = .ok (.iinc 2 1, 3) := by decide +kernel
theorem dX0_greatestSquaredDivisor_42 : decode cX0_greatestSquaredDivisor 42 = .ok (.goto (-38), 3) := by decide +kernel
theorem dX0_greatestSquaredDivisor_45 : decode cX0_greatestSquaredDivisor 45 = .ok (.iload_n 1, 1) := by decide +kernel
theorem dX0_greatestSquaredDivisor_46 : decode cX0_greatestSquaredDivisor 46 = .ok (.ireturn, 1) := by decide +kernel
theorem dX0_count_0 : decode cX0_count 0 = .ok (.iload_n 1, 1) := by decide +kernel
theorem dX0_count_1 : decode cX0_count 1 = .ok (.tableswitch 69 0 5 #[39, 44, 49, 54, 59, 64], 39) := by decide +kernel
theorem dX0_count_40 : decode cX0_count 40 = .ok (.aload_n 0, 1) := by decide +kernel
theorem dX0_count_41 : decode cX0_count 41 = .ok (.getfield 25, 3) := by decide +kernel
theorem dX0_count_44 : decode cX0_count 44 = .ok (.ireturn, 1) := by decide +kernel
theorem dX0_count_45 : decode cX0_count 45 = .ok (.aload_n 0, 1) := by decide +kernel
theorem dX0_count_46 : decode cX0_count 46 = .ok (.getfield 29, 3) := by decide +kernel
theorem dX0_count_49 : decode cX0_count 49 = .ok (.ireturn, 1) := by decide +kernel
theorem dX0_count_50 : decode cX0_count 50 = .ok (.aload_n 0, 1) := by decide +kernel
theorem dX0_count_51 : decode cX0_count 51 = .ok (.getfield 32, 3) := by decide +kernel
theorem dX0_count_54 : decode cX0_count 54 = .ok (.ireturn, 1) := by decide +kernel
theorem dX0_count_55 : decode cX0_count 55 = .ok (.aload_n 0, 1) := by decide +kernel
theorem dX0_count_56 : decode cX0_count 56 = .ok (.invokevirtual 59, 3) := by decide +kernel
theorem dX0_count_59 : decode cX0_count 59 = .ok (.ireturn, 1) := by decide +kernel
theorem dX0_count_60 : decode cX0_count 60 = .ok (.aload_n 0, 1) := by decide +kernel
theorem dX0_count_61 : decode cX0_count 61 = .ok (.invokevirtual 63, 3) := by decide +kernel
theorem dX0_count_64 : decode cX0_count 64 = .ok (.ireturn, 1) := by decide +kernel
theorem dX0_count_65 : decode cX0_count 65 = .ok (.aload_n 0, 1) := by decide +kernel
theorem dX0_count_66 : decode cX0_count 66 = .ok (.getfield 35, 3) := by decide +kernel
theorem dX0_count_69 : decode cX0_count 69 = .ok (.ireturn, 1) := by decide +kernel
theorem dX0_count_70 : decode cX0_count 70 = .ok (.iconst (-1), 1) := by decide +kernel
theorem dX0_count_71 : decode cX0_count 71 = .ok (.ireturn, 1) := by decide +kernel
theorem dX0_symbolWithTwo_0 : decode cX0_symbolWithTwo 0 = .ok (.lload_n 0, 1) := by decide +kernel
theorem dX0_symbolWithTwo_1 : decode cX0_symbolWithTwo 1 = .ok (.ldc2_w 146, 3) := by decide +kernel
theorem dX0_symbolWithTwo_4 : decode cX0_symbolWithTwo 4 = .ok (.land, 1) := by decide +kernel
theorem dX0_symbolWithTwo_5 : decode cX0_symbolWithTwo 5 = .ok (.lstore_n 2, 1) := by decide +kernel
theorem dX0_symbolWithTwo_6 : decode cX0_symbolWithTwo 6 = .ok (.lload_n 2, 1) := by decide +kernel
theorem dX0_symbolWithTwo_7 : decode cX0_symbolWithTwo 7 = .ok (.ldc2_w 137, 3) := by decide +kernel
theorem dX0_symbolWithTwo_10 : decode cX0_symbolWithTwo 10 = .ok (.lrem, 1) := by decide +kernel
theorem dX0_symbolWithTwo_11 : decode cX0_symbolWithTwo 11 = .ok (.lconst 0, 1) := by decide +kernel
theorem dX0_symbolWithTwo_12 : decode cX0_symbolWithTwo 12 = .ok (.lcmp, 1) := by decide +kernel
theorem dX0_symbolWithTwo_13 : decode cX0_symbolWithTwo 13 = .ok (.ifCond .ne 5, 3) := by decide +kernel
theorem dX0_symbolWithTwo_16 : decode cX0_symbolWithTwo 16 = .ok (.iconst 0, 1) := by decide +kernel
theorem dX0_symbolWithTwo_17 : decode cX0_symbolWithTwo 17 = .ok (.ireturn, 1) := by decide +kernel
theorem dX0_symbolWithTwo_18 : decode cX0_symbolWithTwo 18 = .ok (.lload_n 2, 1) := by decide +kernel
theorem dX0_symbolWithTwo_19 : decode cX0_symbolWithTwo 19 = .ok (.lconst 1, 1) := by decide +kernel
theorem dX0_symbolWithTwo_20 : decode cX0_symbolWithTwo 20 = .ok (.lcmp, 1) := by decide +kernel
theorem dX0_symbolWithTwo_21 : decode cX0_symbolWithTwo 21 = .ok (.ifCond .eq 11, 3) := by decide +kernel
theorem dX0_symbolWithTwo_24 : decode cX0_symbolWithTwo 24 = .ok (.lload_n 2, 1) := by decide +kernel
theorem dX0_symbolWithTwo_25 : decode cX0_symbolWithTwo 25 = .ok (.ldc2_w 146, 3) := by decide +kernel
theorem dX0_symbolWithTwo_28 : decode cX0_symbolWithTwo 28 = .ok (.lcmp, 1) := by decide +kernel
theorem dX0_symbolWithTwo_29 : decode cX0_symbolWithTwo 29 = .ok (.ifCond .ne 7, 3) := by decide +kernel
theorem dX0_symbolWithTwo_32 : decode cX0_symbolWithTwo 32 = .ok (.iconst 1, 1) := by decide +kernel
theorem dX0_symbolWithTwo_33 : decode cX0_symbolWithTwo 33 = .ok (.goto 4, 3) := by decide +kernel
theorem dX0_symbolWithTwo_36 : decode cX0_symbolWithTwo 36 = .ok (.iconst (-1), 1) := by decide +kernel
theorem dX0_symbolWithTwo_37 : decode cX0_symbolWithTwo 37 = .ok (.ireturn, 1) := by decide +kernel
theorem dX0_residue_0 : decode cX0_residue 0 = .ok (.iload_n 2, 1) := by decide +kernel
theorem dX0_residue_1 : decode cX0_residue 1 = .ok (.iconst 1, 1) := by decide +kernel
theorem dX0_residue_2 : decode cX0_residue 2 = .ok (.if_icmp .ge 5, 3) := by decide +kernel
theorem dX0_residue_5 : decode cX0_residue 5 = .ok (.iconst 0, 1) := by decide +kernel
theorem dX0_residue_6 : decode cX0_residue 6 = .ok (.ireturn, 1) := by decide +kernel
theorem dX0_residue_7 : decode cX0_residue 7 = .ok (.lload_n 0, 1) := by decide +kernel
theorem dX0_residue_8 : decode cX0_residue 8 = .ok (.iload_n 2, 1) := by decide +kernel
theorem dX0_residue_9 : decode cX0_residue 9 = .ok (.i2l, 1) := by decide +kernel
theorem dX0_residue_10 : decode cX0_residue 10 = .ok (.lrem, 1) := by decide +kernel
theorem dX0_residue_11 : decode cX0_residue 11 = .ok (.lstore_n 3, 1) := by decide +kernel
theorem dX0_residue_12 : decode cX0_residue 12 = .ok (.lload_n 3, 1) := by decide +kernel
theorem dX0_residue_13 : decode cX0_residue 13 = .ok (.lconst 0, 1) := by decide +kernel
theorem dX0_residue_14 : decode cX0_residue 14 = .ok (.lcmp, 1) := by decide +kernel
theorem dX0_residue_15 : decode cX0_residue 15 = .ok (.ifCond .ge 10, 3) := by decide +kernel
theorem dX0_residue_18 : decode cX0_residue 18 = .ok (.lload_n 3, 1) := by decide +kernel
theorem dX0_residue_19 : decode cX0_residue 19 = .ok (.iload_n 2, 1) := by decide +kernel
theorem dX0_residue_20 : decode cX0_residue 20 = .ok (.i2l, 1) := by decide +kernel
theorem dX0_residue_21 : decode cX0_residue 21 = .ok (.ladd, 1) := by decide +kernel
theorem dX0_residue_22 : decode cX0_residue 22 = .ok (.goto 4, 3) := by decide +kernel
theorem dX0_residue_25 : decode cX0_residue 25 = .ok (.lload_n 3, 1) := by decide +kernel
theorem dX0_residue_26 : decode cX0_residue 26 = .ok (.l2i, 1) := by decide +kernel
theorem dX0_residue_27 : decode cX0_residue 27 = .ok (.ireturn, 1) := by decide +kernel
theorem dX0_jacobi_0 : decode cX0_jacobi 0 = .ok (.iconst 1, 1) := by decide +kernel
theorem dX0_jacobi_1 : decode cX0_jacobi 1 = .ok (.istore_n 3, 1) := by decide +kernel
theorem dX0_jacobi_2 : decode cX0_jacobi 2 = .ok (.iload_n 2, 1) := by decide +kernel
theorem dX0_jacobi_3 : decode cX0_jacobi 3 = .ok (.istore 4, 2) := by decide +kernel
theorem dX0_jacobi_5 : decode cX0_jacobi 5 = .ok (.lload_n 0, 1) := by decide +kernel
theorem dX0_jacobi_6 : decode cX0_jacobi 6 = .ok (.iload_n 2, 1) := by decide +kernel
theorem dX0_jacobi_7 : decode cX0_jacobi 7 = .ok (.invokestatic 93, 3) := by decide +kernel
theorem dX0_jacobi_10 : decode cX0_jacobi 10 = .ok (.istore 5, 2) := by decide +kernel
theorem dX0_jacobi_12 : decode cX0_jacobi 12 = .ok (.iconst 0, 1) := by decide +kernel
theorem dX0_jacobi_13 : decode cX0_jacobi 13 = .ok (.istore 6, 2) := by decide +kernel
theorem dX0_jacobi_15 : decode cX0_jacobi 15 = .ok (.iload 6, 2) := by decide +kernel
theorem dX0_jacobi_17 : decode cX0_jacobi 17 = .ok (.bipush 64, 2) := by decide +kernel
theorem dX0_jacobi_19 : decode cX0_jacobi 19 = .ok (.if_icmp .ge 89, 3) := by decide +kernel
theorem dX0_jacobi_22 : decode cX0_jacobi 22 = .ok (.iload 5, 2) := by decide +kernel
theorem dX0_jacobi_24 : decode cX0_jacobi 24 = .ok (.ifCond .le 84, 3) := by decide +kernel
theorem dX0_jacobi_27 : decode cX0_jacobi 27 = .ok (.iconst 0, 1) := by decide +kernel
theorem dX0_jacobi_28 : decode cX0_jacobi 28 = .ok (.istore 7, 2) := by decide +kernel
theorem dX0_jacobi_30 : decode cX0_jacobi 30 = .ok (.iload 7, 2) := by decide +kernel
theorem dX0_jacobi_32 : decode cX0_jacobi 32 = .ok (.bipush 22, 2) := by decide +kernel
theorem dX0_jacobi_34 : decode cX0_jacobi 34 = .ok (.if_icmp .ge 31, 3) := by decide +kernel
theorem dX0_jacobi_37 : decode cX0_jacobi 37 = .ok (.iload 5, 2) := by decide +kernel
theorem dX0_jacobi_39 : decode cX0_jacobi 39 = .ok (.iconst 2, 1) := by decide +kernel
theorem dX0_jacobi_40 : decode cX0_jacobi 40 = .ok (.irem, 1) := by decide +kernel
theorem dX0_jacobi_41 : decode cX0_jacobi 41 = .ok (.ifCond .ne 24, 3) := by decide +kernel
theorem dX0_jacobi_44 : decode cX0_jacobi 44 = .ok (.iload 5, 2) := by decide +kernel
theorem dX0_jacobi_46 : decode cX0_jacobi 46 = .ok (.iconst 2, 1) := by decide +kernel
theorem dX0_jacobi_47 : decode cX0_jacobi 47 = .ok (.idiv, 1) := by decide +kernel
theorem dX0_jacobi_48 : decode cX0_jacobi 48 = .ok (.istore 5, 2) := by decide +kernel
theorem dX0_jacobi_50 : decode cX0_jacobi 50 = .ok (.iload_n 3, 1) := by decide +kernel
theorem dX0_jacobi_51 : decode cX0_jacobi 51 = .ok (.iload 4, 2) := by decide +kernel
theorem dX0_jacobi_53 : decode cX0_jacobi 53 = .ok (.i2l, 1) := by decide +kernel
theorem dX0_jacobi_54 : decode cX0_jacobi 54 = .ok (.invokestatic 71, 3) := by decide +kernel
theorem dX0_jacobi_57 : decode cX0_jacobi 57 = .ok (.imul, 1) := by decide +kernel
theorem dX0_jacobi_58 : decode cX0_jacobi 58 = .ok (.istore_n 3, 1) := by decide +kernel
theorem dX0_jacobi_59 : decode cX0_jacobi 59 = .ok (.iinc 7 1, 3) := by decide +kernel
theorem dX0_jacobi_62 : decode cX0_jacobi 62 = .ok (.goto (-32), 3) := by decide +kernel
theorem dX0_jacobi_65 : decode cX0_jacobi 65 = .ok (.iload 5, 2) := by decide +kernel
theorem dX0_jacobi_67 : decode cX0_jacobi 67 = .ok (.iconst 4, 1) := by decide +kernel
theorem dX0_jacobi_68 : decode cX0_jacobi 68 = .ok (.irem, 1) := by decide +kernel
theorem dX0_jacobi_69 : decode cX0_jacobi 69 = .ok (.iconst 3, 1) := by decide +kernel
theorem dX0_jacobi_70 : decode cX0_jacobi 70 = .ok (.if_icmp .ne 14, 3) := by decide +kernel
theorem dX0_jacobi_73 : decode cX0_jacobi 73 = .ok (.iload 4, 2) := by decide +kernel
theorem dX0_jacobi_75 : decode cX0_jacobi 75 = .ok (.iconst 4, 1) := by decide +kernel
theorem dX0_jacobi_76 : decode cX0_jacobi 76 = .ok (.irem, 1) := by decide +kernel
theorem dX0_jacobi_77 : decode cX0_jacobi 77 = .ok (.iconst 3, 1) := by decide +kernel
theorem dX0_jacobi_78 : decode cX0_jacobi 78 = .ok (.if_icmp .ne 6, 3) := by decide +kernel
theorem dX0_jacobi_81 : decode cX0_jacobi 81 = .ok (.iload_n 3, 1) := by decide +kernel
theorem dX0_jacobi_82 : decode cX0_jacobi 82 = .ok (.ineg, 1) := by decide +kernel
theorem dX0_jacobi_83 : decode cX0_jacobi 83 = .ok (.istore_n 3, 1) := by decide +kernel
theorem dX0_jacobi_84 : decode cX0_jacobi 84 = .ok (.iload 4, 2) := by decide +kernel
theorem dX0_jacobi_86 : decode cX0_jacobi 86 = .ok (.i2l, 1) := by decide +kernel
theorem dX0_jacobi_87 : decode cX0_jacobi 87 = .ok (.iload 5, 2) := by decide +kernel
theorem dX0_jacobi_89 : decode cX0_jacobi 89 = .ok (.invokestatic 93, 3) := by decide +kernel
theorem dX0_jacobi_92 : decode cX0_jacobi 92 = .ok (.istore 7, 2) := by decide +kernel
theorem dX0_jacobi_94 : decode cX0_jacobi 94 = .ok (.iload 5, 2) := by decide +kernel
theorem dX0_jacobi_96 : decode cX0_jacobi 96 = .ok (.istore 4, 2) := by decide +kernel
theorem dX0_jacobi_98 : decode cX0_jacobi 98 = .ok (.iload 7, 2) := by decide +kernel
theorem dX0_jacobi_100 : decode cX0_jacobi 100 = .ok (.istore 5, 2) := by decide +kernel
theorem dX0_jacobi_102 : decode cX0_jacobi 102 = .ok (.iinc 6 1, 3) := by decide +kernel
theorem dX0_jacobi_105 : decode cX0_jacobi 105 = .ok (.goto (-90), 3) := by decide +kernel
theorem dX0_jacobi_108 : decode cX0_jacobi 108 = .ok (.iload 4, 2) := by decide +kernel
theorem dX0_jacobi_110 : decode cX0_jacobi 110 = .ok (.iconst 1, 1) := by decide +kernel
theorem dX0_jacobi_111 : decode cX0_jacobi 111 = .ok (.if_icmp .ne 7, 3) := by decide +kernel
theorem dX0_jacobi_114 : decode cX0_jacobi 114 = .ok (.iload_n 3, 1) := by decide +kernel
theorem dX0_jacobi_115 : decode cX0_jacobi 115 = .ok (.goto 4, 3) := by decide +kernel
theorem dX0_jacobi_118 : decode cX0_jacobi 118 = .ok (.iconst 0, 1) := by decide +kernel
theorem dX0_jacobi_119 : decode cX0_jacobi 119 = .ok (.ireturn, 1) := by decide +kernel
theorem dX0_kronecker_0 : decode cX0_kronecker 0 = .ok (.iload_n 3, 1) := by decide +kernel
theorem dX0_kronecker_1 : decode cX0_kronecker 1 = .ok (.ldc 66, 2) := by decide +kernel
theorem dX0_kronecker_3 : decode cX0_kronecker 3 = .ok (.if_icmp .lt 9, 3) := by decide +kernel
theorem dX0_kronecker_6 : decode cX0_kronecker 6 = .ok (.iload_n 3, 1) := by decide +kernel
theorem dX0_kronecker_7 : decode cX0_kronecker 7 = .ok (.ldc 38, 2) := by decide +kernel
theorem dX0_kronecker_9 : decode cX0_kronecker 9 = .ok (.if_icmp .le 13, 3) := by decide +kernel
theorem dX0_kronecker_12 : decode cX0_kronecker 12 = .ok (.new 39, 3) := by decide +kernel
theorem dX0_kronecker_15 : decode cX0_kronecker 15 = .ok (.dup, 1) := by decide +kernel
theorem dX0_kronecker_16 : decode cX0_kronecker 16 = .ok (.ldc 67, 2) := by decide +kernel
theorem dX0_kronecker_18 : decode cX0_kronecker 18 = .ok (.invokespecial 43, 3) := by decide +kernel
theorem dX0_kronecker_21 : decode cX0_kronecker 21 = .ok (.athrow, 1) := by decide +kernel
theorem dX0_kronecker_22 : decode cX0_kronecker 22 = .ok (.iload_n 3, 1) := by decide +kernel
theorem dX0_kronecker_23 : decode cX0_kronecker 23 = .ok (.ifCond .ne 23, 3) := by decide +kernel
theorem dX0_kronecker_26 : decode cX0_kronecker 26 = .ok (.lload_n 1, 1) := by decide +kernel
theorem dX0_kronecker_27 : decode cX0_kronecker 27 = .ok (.lconst 1, 1) := by decide +kernel
theorem dX0_kronecker_28 : decode cX0_kronecker 28 = .ok (.lcmp, 1) := by decide +kernel
theorem dX0_kronecker_29 : decode cX0_kronecker 29 = .ok (.ifCond .eq 11, 3) := by decide +kernel
theorem dX0_kronecker_32 : decode cX0_kronecker 32 = .ok (.lload_n 1, 1) := by decide +kernel
theorem dX0_kronecker_33 : decode cX0_kronecker 33 = .ok (.ldc2_w 69, 3) := by decide +kernel
theorem dX0_kronecker_36 : decode cX0_kronecker 36 = .ok (.lcmp, 1) := by decide +kernel
theorem dX0_kronecker_37 : decode cX0_kronecker 37 = .ok (.ifCond .ne 7, 3) := by decide +kernel
theorem dX0_kronecker_40 : decode cX0_kronecker 40 = .ok (.iconst 1, 1) := by decide +kernel
theorem dX0_kronecker_41 : decode cX0_kronecker 41 = .ok (.goto 4, 3) := by decide +kernel
theorem dX0_kronecker_44 : decode cX0_kronecker 44 = .ok (.iconst 0, 1) := by decide +kernel
theorem dX0_kronecker_45 : decode cX0_kronecker 45 = .ok (.ireturn, 1) := by decide +kernel
theorem dX0_kronecker_46 : decode cX0_kronecker 46 = .ok (.iload_n 3, 1) := by decide +kernel
theorem dX0_kronecker_47 : decode cX0_kronecker 47 = .ok (.ifCond .ge 13, 3) := by decide +kernel
theorem dX0_kronecker_50 : decode cX0_kronecker 50 = .ok (.lload_n 1, 1) := by decide +kernel
theorem dX0_kronecker_51 : decode cX0_kronecker 51 = .ok (.lconst 0, 1) := by decide +kernel
theorem dX0_kronecker_52 : decode cX0_kronecker 52 = .ok (.lcmp, 1) := by decide +kernel
theorem dX0_kronecker_53 : decode cX0_kronecker 53 = .ok (.ifCond .ge 7, 3) := by decide +kernel
theorem dX0_kronecker_56 : decode cX0_kronecker 56 = .ok (.iconst (-1), 1) := by decide +kernel
theorem dX0_kronecker_57 : decode cX0_kronecker 57 = .ok (.goto 4, 3) := by decide +kernel
theorem dX0_kronecker_60 : decode cX0_kronecker 60 = .ok (.iconst 1, 1) := by decide +kernel
theorem dX0_kronecker_61 : decode cX0_kronecker 61 = .ok (.istore 4, 2) := by decide +kernel
theorem dX0_kronecker_63 : decode cX0_kronecker 63 = .ok (.iload_n 3, 1) := by decide +kernel
theorem dX0_kronecker_64 : decode cX0_kronecker 64 = .ok (.ifCond .ge 8, 3) := by decide +kernel
theorem dX0_kronecker_67 : decode cX0_kronecker 67 = .ok (.iload_n 3, 1) := by decide +kernel
theorem dX0_kronecker_68 : decode cX0_kronecker 68 = .ok (.ineg, 1) := by decide +kernel
theorem dX0_kronecker_69 : decode cX0_kronecker 69 = .ok (.goto 4, 3) := by decide +kernel
theorem dX0_kronecker_72 : decode cX0_kronecker 72 = .ok (.iload_n 3, 1) := by decide +kernel
theorem dX0_kronecker_73 : decode cX0_kronecker 73 = .ok (.istore 5, 2) := by decide +kernel
theorem dX0_kronecker_75 : decode cX0_kronecker 75 = .ok (.iconst 0, 1) := by decide +kernel
theorem dX0_kronecker_76 : decode cX0_kronecker 76 = .ok (.istore 6, 2) := by decide +kernel
theorem dX0_kronecker_78 : decode cX0_kronecker 78 = .ok (.iload 6, 2) := by decide +kernel
theorem dX0_kronecker_80 : decode cX0_kronecker 80 = .ok (.bipush 22, 2) := by decide +kernel
theorem dX0_kronecker_82 : decode cX0_kronecker 82 = .ok (.if_icmp .ge 31, 3) := by decide +kernel
theorem dX0_kronecker_85 : decode cX0_kronecker 85 = .ok (.iload 5, 2) := by decide +kernel
theorem dX0_kronecker_87 : decode cX0_kronecker 87 = .ok (.iconst 2, 1) := by decide +kernel
theorem dX0_kronecker_88 : decode cX0_kronecker 88 = .ok (.irem, 1) := by decide +kernel
theorem dX0_kronecker_89 : decode cX0_kronecker 89 = .ok (.ifCond .ne 24, 3) := by decide +kernel
theorem dX0_kronecker_92 : decode cX0_kronecker 92 = .ok (.iload 5, 2) := by decide +kernel
theorem dX0_kronecker_94 : decode cX0_kronecker 94 = .ok (.iconst 2, 1) := by decide +kernel
theorem dX0_kronecker_95 : decode cX0_kronecker 95 = .ok (.idiv, 1) := by decide +kernel
theorem dX0_kronecker_96 : decode cX0_kronecker 96 = .ok (.istore 5, 2) := by decide +kernel
theorem dX0_kronecker_98 : decode cX0_kronecker 98 = .ok (.iload 4, 2) := by decide +kernel
theorem dX0_kronecker_100 : decode cX0_kronecker 100 = .ok (.lload_n 1, 1) := by decide +kernel
theorem dX0_kronecker_101 : decode cX0_kronecker 101 = .ok (.invokestatic 71, 3) := by decide +kernel
theorem dX0_kronecker_104 : decode cX0_kronecker 104 = .ok (.imul, 1) := by decide +kernel
theorem dX0_kronecker_105 : decode cX0_kronecker 105 = .ok (.istore 4, 2) := by decide +kernel
theorem dX0_kronecker_107 : decode cX0_kronecker 107 = .ok (.iinc 6 1, 3) := by decide +kernel
theorem dX0_kronecker_110 : decode cX0_kronecker 110 = .ok (.goto (-32), 3) := by decide +kernel
theorem dX0_kronecker_113 : decode cX0_kronecker 113 = .ok (.iload 4, 2) := by decide +kernel
theorem dX0_kronecker_115 : decode cX0_kronecker 115 = .ok (.lload_n 1, 1) := by decide +kernel
theorem dX0_kronecker_116 : decode cX0_kronecker 116 = .ok (.iload 5, 2) := by decide +kernel
theorem dX0_kronecker_118 : decode cX0_kronecker 118 = .ok (.invokestatic 75, 3) := by decide +kernel
theorem dX0_kronecker_121 : decode cX0_kronecker 121 = .ok (.imul, 1) := by decide +kernel
theorem dX0_kronecker_122 : decode cX0_kronecker 122 = .ok (.ireturn, 1) := by decide +kernel
theorem dX0_raise_0 : decode cX0_raise 0 = .ok (.lconst 1, 1) := by decide +kernel
theorem dX0_raise_1 : decode cX0_raise 1 = .ok (.iload 4, 2) := by decide +kernel
theorem dX0_raise_3 : decode cX0_raise 3 = .ok (.invokestatic 93, 3) := by decide +kernel
theorem dX0_raise_6 : decode cX0_raise 6 = .ok (.i2l, 1) := by decide +kernel
theorem dX0_raise_7 : decode cX0_raise 7 = .ok (.lstore 5, 2) := by decide +kernel
theorem dX0_raise_9 : decode cX0_raise 9 = .ok (.lload_n 0, 1) := by decide +kernel
theorem dX0_raise_10 : decode cX0_raise 10 = .ok (.iload 4, 2) := by decide +kernel
theorem dX0_raise_12 : decode cX0_raise 12 = .ok (.invokestatic 93, 3) := by decide +kernel
theorem dX0_raise_15 : decode cX0_raise 15 = .ok (.i2l, 1) := by decide +kernel
theorem dX0_raise_16 : decode cX0_raise 16 = .ok (.lstore 7, 2) := by decide +kernel
theorem dX0_raise_18 : decode cX0_raise 18 = .ok (.lload_n 2, 1) := by decide +kernel
theorem dX0_raise_19 : decode cX0_raise 19 = .ok (.lstore 9, 2) := by decide +kernel
theorem dX0_raise_21 : decode cX0_raise 21 = .ok (.iconst 0, 1) := by decide +kernel
theorem dX0_raise_22 : decode cX0_raise 22 = .ok (.istore 11, 2) := by decide +kernel
theorem dX0_raise_24 : decode cX0_raise 24 = .ok (.iload 11, 2) := by decide +kernel
theorem dX0_raise_26 : decode cX0_raise 26 = .ok (.bipush 63, 2) := by decide +kernel
theorem dX0_raise_28 : decode cX0_raise 28 = .ok (.if_icmp .ge 61, 3) := by decide +kernel
theorem dX0_raise_31 : decode cX0_raise 31 = .ok (.lload 9, 2) := by decide +kernel
theorem dX0_raise_33 : decode cX0_raise 33 = .ok (.lconst 0, 1) := by decide +kernel
theorem dX0_raise_34 : decode cX0_raise 34 = .ok (.lcmp, 1) := by decide +kernel
theorem dX0_raise_35 : decode cX0_raise 35 = .ok (.ifCond .le 54, 3) := by decide +kernel
theorem dX0_raise_38 : decode cX0_raise 38 = .ok (.lload 9, 2) := by decide +kernel
theorem dX0_raise_40 : decode cX0_raise 40 = .ok (.ldc2_w 137, 3) := by decide +kernel
theorem dX0_raise_43 : decode cX0_raise 43 = .ok (.lrem, 1) := by decide +kernel
theorem dX0_raise_44 : decode cX0_raise 44 = .ok (.lconst 1, 1) := by decide +kernel
theorem dX0_raise_45 : decode cX0_raise 45 = .ok (.lcmp, 1) := by decide +kernel
theorem dX0_raise_46 : decode cX0_raise 46 = .ok (.ifCond .ne 16, 3) := by decide +kernel
theorem dX0_raise_49 : decode cX0_raise 49 = .ok (.lload 5, 2) := by decide +kernel
theorem dX0_raise_51 : decode cX0_raise 51 = .ok (.lload 7, 2) := by decide +kernel
theorem dX0_raise_53 : decode cX0_raise 53 = .ok (.lmul, 1) := by decide +kernel
theorem dX0_raise_54 : decode cX0_raise 54 = .ok (.iload 4, 2) := by decide +kernel
theorem dX0_raise_56 : decode cX0_raise 56 = .ok (.invokestatic 93, 3) := by decide +kernel
theorem dX0_raise_59 : decode cX0_raise 59 = .ok (.i2l, 1) := by decide +kernel
theorem dX0_raise_60 : decode cX0_raise 60 = .ok (.lstore 5, 2) := by decide +kernel
theorem dX0_raise_62 : decode cX0_raise 62 = .ok (.lload 7, 2) := by decide +kernel
theorem dX0_raise_64 : decode cX0_raise 64 = .ok (.lload 7, 2) := by decide +kernel
theorem dX0_raise_66 : decode cX0_raise 66 = .ok (.lmul, 1) := by decide +kernel
theorem dX0_raise_67 : decode cX0_raise 67 = .ok (.iload 4, 2) := by decide +kernel
theorem dX0_raise_69 : decode cX0_raise 69 = .ok (.invokestatic 93, 3) := by decide +kernel
theorem dX0_raise_72 : decode cX0_raise 72 = .ok (.i2l, 1) := by decide +kernel
theorem dX0_raise_73 : decode cX0_raise 73 = .ok (.lstore 7, 2) := by decide +kernel
theorem dX0_raise_75 : decode cX0_raise 75 = .ok (.lload 9, 2) := by decide +kernel
theorem dX0_raise_77 : decode cX0_raise 77 = .ok (.ldc2_w 137, 3) := by decide +kernel
theorem dX0_raise_80 : decode cX0_raise 80 = .ok (.ldiv, 1) := by decide +kernel
theorem dX0_raise_81 : decode cX0_raise 81 = .ok (.lstore 9, 2) := by decide +kernel
theorem dX0_raise_83 : decode cX0_raise 83 = .ok (.iinc 11 1, 3) := by decide +kernel
theorem dX0_raise_86 : decode cX0_raise 86 = .ok (.goto (-62), 3) := by decide +kernel
theorem dX0_raise_89 : decode cX0_raise 89 = .ok (.lload 5, 2) := by decide +kernel
theorem dX0_raise_91 : decode cX0_raise 91 = .ok (.l2i, 1) := by decide +kernel
theorem dX0_raise_92 : decode cX0_raise 92 = .ok (.ireturn, 1) := by decide +kernel
theorem dX0_power_0 : decode cX0_power 0 = .ok (.lload_n 3, 1) := by decide +kernel
theorem dX0_power_1 : decode cX0_power 1 = .ok (.lconst 0, 1) := by decide +kernel
theorem dX0_power_2 : decode cX0_power 2 = .ok (.lcmp, 1) := by decide +kernel
theorem dX0_power_3 : decode cX0_power 3 = .ok (.ifCond .ge 13, 3) := by decide +kernel
theorem dX0_power_6 : decode cX0_power 6 = .ok (.new 39, 3) := by decide +kernel
theorem dX0_power_9 : decode cX0_power 9 = .ok (.dup, 1) := by decide +kernel
theorem dX0_power_10 : decode cX0_power 10 = .ok (.ldc 79, 2) := by decide +kernel
theorem dX0_power_12 : decode cX0_power 12 = .ok (.invokespecial 43, 3) := by decide +kernel
theorem dX0_power_15 : decode cX0_power 15 = .ok (.athrow, 1) := by decide +kernel
theorem dX0_power_16 : decode cX0_power 16 = .ok (.lload_n 1, 1) := by decide +kernel
theorem dX0_power_17 : decode cX0_power 17 = .ok (.lload_n 3, 1) := by decide +kernel
theorem dX0_power_18 : decode cX0_power 18 = .ok (.aload_n 0, 1) := by decide +kernel
theorem dX0_power_19 : decode cX0_power 19 = .ok (.getfield 25, 3) := by decide +kernel
theorem dX0_power_22 : decode cX0_power 22 = .ok (.invokestatic 81, 3) := by decide +kernel
theorem dX0_power_25 : decode cX0_power 25 = .ok (.ireturn, 1) := by decide +kernel
theorem dX0_invert_0 : decode cX0_invert 0 = .ok (.iload_n 2, 1) := by decide +kernel
theorem dX0_invert_1 : decode cX0_invert 1 = .ok (.istore_n 3, 1) := by decide +kernel
theorem dX0_invert_2 : decode cX0_invert 2 = .ok (.iconst 0, 1) := by decide +kernel
theorem dX0_invert_3 : decode cX0_invert 3 = .ok (.istore 4, 2) := by decide +kernel
theorem dX0_invert_5 : decode cX0_invert 5 = .ok (.lload_n 0, 1) := by decide +kernel
theorem dX0_invert_6 : decode cX0_invert 6 = .ok (.iload_n 2, 1) := by decide +kernel
theorem dX0_invert_7 : decode cX0_invert 7 = .ok (.invokestatic 93, 3) := by decide +kernel
theorem dX0_invert_10 : decode cX0_invert 10 = .ok (.istore 5, 2) := by decide +kernel
theorem dX0_invert_12 : decode cX0_invert 12 = .ok (.iconst 1, 1) := by decide +kernel
theorem dX0_invert_13 : decode cX0_invert 13 = .ok (.istore 6, 2) := by decide +kernel
theorem dX0_invert_15 : decode cX0_invert 15 = .ok (.iconst 0, 1) := by decide +kernel
theorem dX0_invert_16 : decode cX0_invert 16 = .ok (.istore 7, 2) := by decide +kernel
theorem dX0_invert_18 : decode cX0_invert 18 = .ok (.iload 7, 2) := by decide +kernel
theorem dX0_invert_20 : decode cX0_invert 20 = .ok (.bipush 64, 2) := by decide +kernel
theorem dX0_invert_22 : decode cX0_invert 22 = .ok (.if_icmp .ge 54, 3) := by decide +kernel
theorem dX0_invert_25 : decode cX0_invert 25 = .ok (.iload 5, 2) := by decide +kernel
theorem dX0_invert_27 : decode cX0_invert 27 = .ok (.ifCond .le 49, 3) := by decide +kernel
theorem dX0_invert_30 : decode cX0_invert 30 = .ok (.iload_n 3, 1) := by decide +kernel
theorem dX0_invert_31 : decode cX0_invert 31 = .ok (.iload 5, 2) := by decide +kernel
theorem dX0_invert_33 : decode cX0_invert 33 = .ok (.idiv, 1) := by decide +kernel
theorem dX0_invert_34 : decode cX0_invert 34 = .ok (.istore 8, 2) := by decide +kernel
theorem dX0_invert_36 : decode cX0_invert 36 = .ok (.iload_n 3, 1) := by decide +kernel
