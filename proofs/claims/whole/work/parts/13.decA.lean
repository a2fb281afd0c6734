theorem dX0_init_0 : decode cX0_init 0 = .ok (.aload_n 0, 1) := by decide +kernel
theorem dX0_init_1 : decode cX0_init 1 = .ok (.invokespecial 3, 3) := by decide +kernel
theorem dX0_init_4 : decode cX0_init 4 = .ok (.aload_n 0, 1) := by decide +kernel
theorem dX0_init_5 : decode cX0_init 5 = .ok (.new 9, 3) := by decide +kernel
theorem dX0_init_8 : decode cX0_init 8 = .ok (.dup, 1) := by decide +kernel
theorem dX0_init_9 : decode cX0_init 9 = .ok (.invokespecial 11, 3) := by decide +kernel
theorem dX0_init_12 : decode cX0_init 12 = .ok (.putfield 12, 3) := by decide +kernel
theorem dX0_init_15 : decode cX0_init 15 = .ok (.aload_n 0, 1) := by decide +kernel
theorem dX0_init_16 : decode cX0_init 16 = .ok (.bipush 7, 2) := by decide +kernel
theorem dX0_init_18 : decode cX0_init 18 = .ok (.anewarray 9, 3) := by decide +kernel
theorem dX0_init_21 : decode cX0_init 21 = .ok (.putfield 18, 3) := by decide +kernel
theorem dX0_init_24 : decode cX0_init 24 = .ok (.aload_n 0, 1) := by decide +kernel
theorem dX0_init_25 : decode cX0_init 25 = .ok (.bipush 64, 2) := by decide +kernel
theorem dX0_init_27 : decode cX0_init 27 = .ok (.newarray .int, 2) := by decide +kernel
theorem dX0_init_29 : decode cX0_init 29 = .ok (.putfield 22, 3) := by decide +kernel
theorem dX0_init_32 : decode cX0_init 32 = .ok (.aload_n 0, 1) := by decide +kernel
theorem dX0_init_33 : decode cX0_init 33 = .ok (.sipush 896, 3) := by decide +kernel
theorem dX0_init_36 : decode cX0_init 36 = .ok (.newarray .int, 2) := by decide +kernel
theorem dX0_init_38 : decode cX0_init 38 = .ok (.putfield 26, 3) := by decide +kernel
theorem dX0_init_41 : decode cX0_init 41 = .ok (.aload_n 0, 1) := by decide +kernel
theorem dX0_init_42 : decode cX0_init 42 = .ok (.aload_n 1, 1) := by decide +kernel
theorem dX0_init_43 : decode cX0_init 43 = .ok (.putfield 29, 3) := by decide +kernel
theorem dX0_init_46 : decode cX0_init 46 = .ok (.iconst 0, 1) := by decide +kernel
theorem dX0_init_47 : decode cX0_init 47 = .ok (.istore_n 2, 1) := by decide +kernel
theorem dX0_init_48 : decode cX0_init 48 = .ok (.iload_n 2, 1) := by decide +kernel
theorem dX0_init_49 : decode cX0_init 49 = .ok (.bipush 7, 2) := by decide +kernel
theorem dX0_init_51 : decode cX0_init 51 = .ok (.if_icmp .ge 22, 3) := by decide +kernel
theorem dX0_init_54 : decode cX0_init 54 = .ok (.aload_n 0, 1) := by decide +kernel
theorem dX0_init_55 : decode cX0_init 55 = .ok (.getfield 18, 3) := by decide +kernel
theorem dX0_init_58 : decode cX0_init 58 = .ok (.iload_n 2, 1) := by decide +kernel
theorem dX0_init_59 : decode cX0_init 59 = .ok (.new 9, 3) := by decide +kernel
theorem dX0_init_62 : decode cX0_init 62 = .ok (.dup, 1) := by decide +kernel
theorem dX0_init_63 : decode cX0_init 63 = .ok (.invokespecial 11, 3) := by decide +kernel
theorem dX0_init_66 : decode cX0_init 66 = .ok (.aastore, 1) := by decide +kernel
theorem dX0_init_67 : decode cX0_init 67 = .ok (.iinc 2 1, 3) := by decide +kernel
theorem dX0_init_70 : decode cX0_init 70 = .ok (.goto (-22), 3) := by decide +kernel
theorem dX0_init_73 : decode cX0_init 73 = .ok (.return_, 1) := by decide +kernel
theorem dX0_behind_0 : decode cX0_behind 0 = .ok (.aload_n 0, 1) := by decide +kernel
theorem dX0_behind_1 : decode cX0_behind 1 = .ok (.getfield 12, 3) := by decide +kernel
theorem dX0_behind_4 : decode cX0_behind 4 = .ok (.aload_n 1, 1) := by decide +kernel
theorem dX0_behind_5 : decode cX0_behind 5 = .ok (.invokevirtual 33, 3) := by decide +kernel
theorem dX0_behind_8 : decode cX0_behind 8 = .ok (.iconst 0, 1) := by decide +kernel
theorem dX0_behind_9 : decode cX0_behind 9 = .ok (.istore 4, 2) := by decide +kernel
theorem dX0_behind_11 : decode cX0_behind 11 = .ok (.iload 4, 2) := by decide +kernel
theorem dX0_behind_13 : decode cX0_behind 13 = .ok (.iload_n 2, 1) := by decide +kernel
theorem dX0_behind_14 : decode cX0_behind 14 = .ok (.if_icmp .ge 21, 3) := by decide +kernel
theorem dX0_behind_17 : decode cX0_behind 17 = .ok (.aload_n 0, 1) := by decide +kernel
theorem dX0_behind_18 : decode cX0_behind 18 = .ok (.getfield 29, 3) := by decide +kernel
theorem dX0_behind_21 : decode cX0_behind 21 = .ok (.aload_n 0, 1) := by decide +kernel
theorem dX0_behind_22 : decode cX0_behind 22 = .ok (.getfield 12, 3) := by decide +kernel
theorem dX0_behind_25 : decode cX0_behind 25 = .ok (.iload_n 3, 1) := by decide +kernel
theorem dX0_behind_26 : decode cX0_behind 26 = .ok (.invokevirtual 37, 3) := by decide +kernel
theorem dX0_behind_29 : decode cX0_behind 29 = .ok (.iinc 4 1, 3) := by decide +kernel
theorem dX0_behind_32 : decode cX0_behind 32 = .ok (.goto (-21), 3) := by decide +kernel
theorem dX0_behind_35 : decode cX0_behind 35 = .ok (.aload_n 0, 1) := by decide +kernel
theorem dX0_behind_36 : decode cX0_behind 36 = .ok (.getfield 12, 3) := by decide +kernel
theorem dX0_behind_39 : decode cX0_behind 39 = .ok (.areturn, 1) := by decide +kernel
theorem dX0_daysToRise_0 : decode cX0_daysToRise 0 = .ok (.aload_n 0, 1) := by decide +kernel
theorem dX0_daysToRise_1 : decode cX0_daysToRise 1 = .ok (.getfield 12, 3) := by decide +kernel
theorem dX0_daysToRise_4 : decode cX0_daysToRise 4 = .ok (.aload_n 1, 1) := by decide +kernel
theorem dX0_daysToRise_5 : decode cX0_daysToRise 5 = .ok (.invokevirtual 33, 3) := by decide +kernel
theorem dX0_daysToRise_8 : decode cX0_daysToRise 8 = .ok (.iconst 0, 1) := by decide +kernel
theorem dX0_daysToRise_9 : decode cX0_daysToRise 9 = .ok (.istore 4, 2) := by decide +kernel
theorem dX0_daysToRise_11 : decode cX0_daysToRise 11 = .ok (.iload 4, 2) := by decide +kernel
theorem dX0_daysToRise_13 : decode cX0_daysToRise 13 = .ok (.bipush 60, 2) := by decide +kernel
theorem dX0_daysToRise_15 : decode cX0_daysToRise 15 = .ok (.if_icmp .gt 50, 3) := by decide +kernel
theorem dX0_daysToRise_18 : decode cX0_daysToRise 18 = .ok (.aload_n 0, 1) := by decide +kernel
theorem dX0_daysToRise_19 : decode cX0_daysToRise 19 = .ok (.getfield 12, 3) := by decide +kernel
theorem dX0_daysToRise_22 : decode cX0_daysToRise 22 = .ok (.getfield 43, 3) := by decide +kernel
theorem dX0_daysToRise_25 : decode cX0_daysToRise 25 = .ok (.sipush 999, 3) := by decide +kernel
theorem dX0_daysToRise_28 : decode cX0_daysToRise 28 = .ok (.if_icmp .gt 37, 3) := by decide +kernel
theorem dX0_daysToRise_31 : decode cX0_daysToRise 31 = .ok (.aload_n 0, 1) := by decide +kernel
theorem dX0_daysToRise_32 : decode cX0_daysToRise 32 = .ok (.getfield 12, 3) := by decide +kernel
theorem dX0_daysToRise_35 : decode cX0_daysToRise 35 = .ok (.getfield 47, 3) := by decide +kernel
theorem dX0_daysToRise_38 : decode cX0_daysToRise 38 = .ok (.iload_n 2, 1) := by decide +kernel
theorem dX0_daysToRise_39 : decode cX0_daysToRise 39 = .ok (.iaload, 1) := by decide +kernel
theorem dX0_daysToRise_40 : decode cX0_daysToRise 40 = .ok (.iload_n 3, 1) := by decide +kernel
theorem dX0_daysToRise_41 : decode cX0_daysToRise 41 = .ok (.if_icmp .lt 6, 3) := by decide +kernel
theorem dX0_daysToRise_44 : decode cX0_daysToRise 44 = .ok (.iload 4, 2) := by decide +kernel
theorem dX0_daysToRise_46 : decode cX0_daysToRise 46 = .ok (.ireturn, 1) := by decide +kernel
theorem dX0_daysToRise_47 : decode cX0_daysToRise 47 = .ok (.aload_n 0, 1) := by decide +kernel
theorem dX0_daysToRise_48 : decode cX0_daysToRise 48 = .ok (.getfield 29, 3) := by decide +kernel
theorem dX0_daysToRise_51 : decode cX0_daysToRise 51 = .ok (.aload_n 0, 1) := by decide +kernel
theorem dX0_daysToRise_52 : decode cX0_daysToRise 52 = .ok (.getfield 12, 3) := by decide +kernel
theorem dX0_daysToRise_55 : decode cX0_daysToRise 55 = .ok (.iconst 0, 1) := by decide +kernel
theorem dX0_daysToRise_56 : decode cX0_daysToRise 56 = .ok (.invokevirtual 37, 3) := by decide +kernel
theorem dX0_daysToRise_59 : decode cX0_daysToRise 59 = .ok (.iinc 4 1, 3) := by decide +kernel
theorem dX0_daysToRise_62 : decode cX0_daysToRise 62 = .ok (.goto (-51), 3) := by decide +kernel
theorem dX0_daysToRise_65 : decode cX0_daysToRise 65 = .ok (.iconst (-1), 1) := by decide +kernel
theorem dX0_daysToRise_66 : decode cX0_daysToRise 66 = .ok (.ireturn, 1) := by decide +kernel
theorem dX0_learnOwnHeights_0 : decode cX0_learnOwnHeights 0 = .ok (.iconst 0, 1) := by decide +kernel
theorem dX0_learnOwnHeights_1 : decode cX0_learnOwnHeights 1 = .ok (.istore_n 3, 1) := by decide +kernel
theorem dX0_learnOwnHeights_2 : decode cX0_learnOwnHeights 2 = .ok (.iload_n 3, 1) := by decide +kernel
theorem dX0_learnOwnHeights_3 : decode cX0_learnOwnHeights 3 = .ok (.aload_n 0, 1) := by decide +kernel
theorem dX0_learnOwnHeights_4 : decode cX0_learnOwnHeights 4 = .ok (.getfield 29, 3) := by decide +kernel
theorem dX0_learnOwnHeights_7 : decode cX0_learnOwnHeights 7 = .ok (.getfield 50, 3) := by decide +kernel
theorem dX0_learnOwnHeights_10 : decode cX0_learnOwnHeights 10 = .ok (.getfield 54, 3) := by decide +kernel
theorem dX0_learnOwnHeights_13 : decode cX0_learnOwnHeights 13 = .ok (.if_icmp .ge 61, 3) := by decide +kernel
theorem dX0_learnOwnHeights_16 : decode cX0_learnOwnHeights 16 = .ok (.aload_n 0, 1) := by decide +kernel
theorem dX0_learnOwnHeights_17 : decode cX0_learnOwnHeights 17 = .ok (.getfield 29, 3) := by decide +kernel
theorem dX0_learnOwnHeights_20 : decode cX0_learnOwnHeights 20 = .ok (.getfield 50, 3) := by decide +kernel
theorem dX0_learnOwnHeights_23 : decode cX0_learnOwnHeights 23 = .ok (.aload_n 1, 1) := by decide +kernel
theorem dX0_learnOwnHeights_24 : decode cX0_learnOwnHeights 24 = .ok (.getfield 59, 3) := by decide +kernel
theorem dX0_learnOwnHeights_27 : decode cX0_learnOwnHeights 27 = .ok (.iload_n 3, 1) := by decide +kernel
theorem dX0_learnOwnHeights_28 : decode cX0_learnOwnHeights 28 = .ok (.iaload, 1) := by decide +kernel
theorem dX0_learnOwnHeights_29 : decode cX0_learnOwnHeights 29 = .ok (.aload_n 1, 1) := by decide +kernel
theorem dX0_learnOwnHeights_30 : decode cX0_learnOwnHeights 30 = .ok (.getfield 62, 3) := by decide +kernel
theorem dX0_learnOwnHeights_33 : decode cX0_learnOwnHeights 33 = .ok (.iload_n 3, 1) := by decide +kernel
theorem dX0_learnOwnHeights_34 : decode cX0_learnOwnHeights 34 = .ok (.iaload, 1) := by decide +kernel
theorem dX0_learnOwnHeights_35 : decode cX0_learnOwnHeights 35 = .ok (.invokevirtual 65, 3) := by decide +kernel
theorem dX0_learnOwnHeights_38 : decode cX0_learnOwnHeights 38 = .ok (.istore 4, 2) := by decide +kernel
theorem dX0_learnOwnHeights_40 : decode cX0_learnOwnHeights 40 = .ok (.aload_n 0, 1) := by decide +kernel
theorem dX0_learnOwnHeights_41 : decode cX0_learnOwnHeights 41 = .ok (.getfield 26, 3) := by decide +kernel
theorem dX0_learnOwnHeights_44 : decode cX0_learnOwnHeights 44 = .ok (.iload_n 2, 1) := by decide +kernel
theorem dX0_learnOwnHeights_45 : decode cX0_learnOwnHeights 45 = .ok (.bipush 7, 2) := by decide +kernel
theorem dX0_learnOwnHeights_47 : decode cX0_learnOwnHeights 47 = .ok (.imul, 1) := by decide +kernel
theorem dX0_learnOwnHeights_48 : decode cX0_learnOwnHeights 48 = .ok (.iload_n 3, 1) := by decide +kernel
theorem dX0_learnOwnHeights_49 : decode cX0_learnOwnHeights 49 = .ok (.iadd, 1) := by decide +kernel
theorem dX0_learnOwnHeights_50 : decode cX0_learnOwnHeights 50 = .ok (.iload 4, 2) := by decide +kernel
theorem dX0_learnOwnHeights_52 : decode cX0_learnOwnHeights 52 = .ok (.iconst (-1), 1) := by decide +kernel
theorem dX0_learnOwnHeights_53 : decode cX0_learnOwnHeights 53 = .ok (.if_icmp .ne 7, 3) := by decide +kernel
theorem dX0_learnOwnHeights_56 : decode cX0_learnOwnHeights 56 = .ok (.iconst 0, 1) := by decide +kernel
theorem dX0_learnOwnHeights_57 : decode cX0_learnOwnHeights 57 = .ok (.goto 10, 3) := by decide +kernel
theorem dX0_learnOwnHeights_60 : decode cX0_learnOwnHeights 60 = .ok (.aload_n 1, 1) := by decide +kernel
theorem dX0_learnOwnHeights_61 : decode cX0_learnOwnHeights 61 = .ok (.getfield 47, 3) := by decide +kernel
theorem dX0_learnOwnHeights_64 : decode cX0_learnOwnHeights 64 = .ok (.iload 4, 2) := by decide +kernel
theorem dX0_learnOwnHeights_66 : decode cX0_learnOwnHeights 66 = .ok (.iaload, 1) := by decide +kernel
theorem dX0_learnOwnHeights_67 : decode cX0_learnOwnHeights 67 = .ok (.iastore, 1) := by decide +kernel
theorem dX0_learnOwnHeights_68 : decode cX0_learnOwnHeights 68 = .ok (.iinc 3 1, 3) := by decide +kernel
theorem dX0_learnOwnHeights_71 : decode cX0_learnOwnHeights 71 = .ok (.goto (-69), 3) := by decide +kernel
theorem dX0_learnOwnHeights_74 : decode cX0_learnOwnHeights 74 = .ok (.return_, 1) := by decide +kernel
theorem dX0_isAtRest_0 : decode cX0_isAtRest 0 = .ok (.iconst 0, 1) := by decide +kernel
theorem dX0_isAtRest_1 : decode cX0_isAtRest 1 = .ok (.istore_n 2, 1) := by decide +kernel
theorem dX0_isAtRest_2 : decode cX0_isAtRest 2 = .ok (.iload_n 2, 1) := by decide +kernel
theorem dX0_isAtRest_3 : decode cX0_isAtRest 3 = .ok (.aload_n 0, 1) := by decide +kernel
theorem dX0_isAtRest_4 : decode cX0_isAtRest 4 = .ok (.getfield 29, 3) := by decide +kernel
theorem dX0_isAtRest_7 : decode cX0_isAtRest 7 = .ok (.getfield 50, 3) := by decide +kernel
theorem dX0_isAtRest_10 : decode cX0_isAtRest 10 = .ok (.getfield 54, 3) := by decide +kernel
theorem dX0_isAtRest_13 : decode cX0_isAtRest 13 = .ok (.if_icmp .ge 42, 3) := by decide +kernel
theorem dX0_isAtRest_16 : decode cX0_isAtRest 16 = .ok (.iload_n 1, 1) := by decide +kernel
theorem dX0_isAtRest_17 : decode cX0_isAtRest 17 = .ok (.iconst 1, 1) := by decide +kernel
theorem dX0_isAtRest_18 : decode cX0_isAtRest 18 = .ok (.iload_n 2, 1) := by decide +kernel
theorem dX0_isAtRest_19 : decode cX0_isAtRest 19 = .ok (.ishl, 1) := by decide +kernel
theorem dX0_isAtRest_20 : decode cX0_isAtRest 20 = .ok (.ixor, 1) := by decide +kernel
theorem dX0_isAtRest_21 : decode cX0_isAtRest 21 = .ok (.istore_n 3, 1) := by decide +kernel
theorem dX0_isAtRest_22 : decode cX0_isAtRest 22 = .ok (.aload_n 0, 1) := by decide +kernel
theorem dX0_isAtRest_23 : decode cX0_isAtRest 23 = .ok (.getfield 26, 3) := by decide +kernel
theorem dX0_isAtRest_26 : decode cX0_isAtRest 26 = .ok (.iload_n 3, 1) := by decide +kernel
theorem dX0_isAtRest_27 : decode cX0_isAtRest 27 = .ok (.bipush 7, 2) := by decide +kernel
theorem dX0_isAtRest_29 : decode cX0_isAtRest 29 = .ok (.imul, 1) := by decide +kernel
theorem dX0_isAtRest_30 : decode cX0_isAtRest 30 = .ok (.iload_n 2, 1) := by decide +kernel
theorem dX0_isAtRest_31 : decode cX0_isAtRest 31 = .ok (.iadd, 1) := by decide +kernel
theorem dX0_isAtRest_32 : decode cX0_isAtRest 32 = .ok (.iaload, 1) := by decide +kernel
theorem dX0_isAtRest_33 : decode cX0_isAtRest 33 = .ok (.aload_n 0, 1) := by decide +kernel
theorem dX0_isAtRest_34 : decode cX0_isAtRest 34 = .ok (.getfield 26, 3) := by decide +kernel
theorem dX0_isAtRest_37 : decode cX0_isAtRest 37 = .ok (.iload_n 1, 1) := by decide +kernel
theorem dX0_isAtRest_38 : decode cX0_isAtRest 38 = .ok (.bipush 7, 2) := by decide +kernel
theorem dX0_isAtRest_40 : decode cX0_isAtRest 40 = .ok (.imul, 1) := by decide +kernel
theorem dX0_isAtRest_41 : decode cX0_isAtRest 41 = .ok (.iload_n 2, 1) := by decide +kernel
theorem dX0_isAtRest_42 : decode cX0_isAtRest 42 = .ok (.iadd, 1) := by decide +kernel
theorem dX0_isAtRest_43 : decode cX0_isAtRest 43 = .ok (.iaload, 1) := by decide +kernel
theorem dX0_isAtRest_44 : decode cX0_isAtRest 44 = .ok (.if_icmp .le 5, 3) := by decide +kernel
theorem dX0_isAtRest_47 : decode cX0_isAtRest 47 = .ok (.iconst 0, 1) := by decide +kernel
theorem dX0_isAtRest_48 : decode cX0_isAtRest 48 = .ok (.ireturn, 1) := by decide +kernel
theorem dX0_isAtRest_49 : decode cX0_isAtRest 49 = .ok (.iinc 2 1, 3) := by decide +kernel
theorem dX0_isAtRest_52 : decode cX0_isAtRest 52 = .ok (.goto (-50), 3) := by decide +kernel
theorem dX0_isAtRest_55 : decode cX0_isAtRest 55 = .ok (.iconst 1, 1) := by decide +kernel
theorem dX0_isAtRest_56 : decode cX0_isAtRest 56 = .ok (.ireturn, 1) := by decide +kernel
theorem dX0_askEach_0 : decode cX0_askEach 0 = .ok (.iconst 0, 1) := by decide +kernel
theorem dX0_askEach_1 : decode cX0_askEach 1 = .ok (.istore_n 3, 1) := by decide +kernel
theorem dX0_askEach_2 : decode cX0_askEach 2 = .ok (.iload_n 3, 1) := by decide +kernel
theorem dX0_askEach_3 : decode cX0_askEach 3 = .ok (.aload_n 0, 1) := by decide +kernel
theorem dX0_askEach_4 : decode cX0_askEach 4 = .ok (.getfield 29, 3) := by decide +kernel
theorem dX0_askEach_7 : decode cX0_askEach 7 = .ok (.getfield 50, 3) := by decide +kernel
theorem dX0_askEach_10 : decode cX0_askEach 10 = .ok (.getfield 54, 3) := by decide +kernel
theorem dX0_askEach_13 : decode cX0_askEach 13 = .ok (.if_icmp .ge 35, 3) := by decide +kernel
theorem dX0_askEach_16 : decode cX0_askEach 16 = .ok (.aload_n 0, 1) := by decide +kernel
theorem dX0_askEach_17 : decode cX0_askEach 17 = .ok (.getfield 18, 3) := by decide +kernel
theorem dX0_askEach_20 : decode cX0_askEach 20 = .ok (.iload_n 3, 1) := by decide +kernel
theorem dX0_askEach_21 : decode cX0_askEach 21 = .ok (.aaload, 1) := by decide +kernel
theorem dX0_askEach_22 : decode cX0_askEach 22 = .ok (.aload_n 1, 1) := by decide +kernel
theorem dX0_askEach_23 : decode cX0_askEach 23 = .ok (.invokevirtual 33, 3) := by decide +kernel
theorem dX0_askEach_26 : decode cX0_askEach 26 = .ok (.aload_n 0, 1) := by decide +kernel
theorem dX0_askEach_27 : decode cX0_askEach 27 = .ok (.getfield 29, 3) := by decide +kernel
theorem dX0_askEach_30 : decode cX0_askEach 30 = .ok (.aload_n 0, 1) := by decide +kernel
theorem dX0_askEach_31 : decode cX0_askEach 31 = .ok (.getfield 18, 3) := by decide +kernel
theorem dX0_askEach_34 : decode cX0_askEach 34 = .ok (.iload_n 3, 1) := by decide +kernel
theorem dX0_askEach_35 : decode cX0_askEach 35 = .ok (.aaload, 1) := by decide +kernel
theorem dX0_askEach_36 : decode cX0_askEach 36 = .ok (.iload_n 3, 1) := by decide +kernel
theorem dX0_askEach_37 : decode cX0_askEach 37 = .ok (.iload_n 2, 1) := by decide +kernel
theorem dX0_askEach_38 : decode cX0_askEach 38 = .ok (.invokevirtual 69, 3) := by decide +kernel
theorem dX0_askEach_41 : decode cX0_askEach 41 = .ok (.pop, 1) := by decide +kernel
theorem dX0_askEach_42 : decode cX0_askEach 42 = .ok (.iinc 3 1, 3) := by decide +kernel
theorem dX0_askEach_45 : decode cX0_askEach 45 = .ok (.goto (-43), 3) := by decide +kernel
theorem dX0_askEach_48 : decode cX0_askEach 48 = .ok (.return_, 1) := by decide +kernel
theorem dX0_whoFits_0 : decode cX0_whoFits 0 = .ok (.iconst 1, 1) := by decide +kernel
theorem dX0_whoFits_1 : decode cX0_whoFits 1 = .ok (.aload_n 0, 1) := by decide +kernel
theorem dX0_whoFits_2 : decode cX0_whoFits 2 = .ok (.getfield 29, 3) := by decide +kernel
theorem dX0_whoFits_5 : decode cX0_whoFits 5 = .ok (.getfield 50, 3) := by decide +kernel
theorem dX0_whoFits_8 : decode cX0_whoFits 8 = .ok (.getfield 54, 3) := by decide +kernel
theorem dX0_whoFits_11 : decode cX0_whoFits 11 = .ok (.ishl, 1) := by decide +kernel
theorem dX0_whoFits_12 : decode cX0_whoFits 12 = .ok (.iconst 1, 1) := by decide +kernel
theorem dX0_whoFits_13 : decode cX0_whoFits 13 = .ok (.isub, 1) := by decide +kernel
theorem dX0_whoFits_14 : decode cX0_whoFits 14 = .ok (.istore_n 3, 1) := by decide +kernel
theorem dX0_whoFits_15 : decode cX0_whoFits 15 = .ok (.aload_n 0, 1) := by decide +kernel
theorem dX0_whoFits_16 : decode cX0_whoFits 16 = .ok (.getfield 73, 3) := by decide +kernel
theorem dX0_whoFits_19 : decode cX0_whoFits 19 = .ok (.ifCond .ne 5, 3) := by decide +kernel
theorem dX0_whoFits_22 : decode cX0_whoFits 22 = .ok (.iload_n 3, 1) := by decide +kernel
theorem dX0_whoFits_23 : decode cX0_whoFits 23 = .ok (.ireturn, 1) := by decide +kernel
theorem dX0_whoFits_24 : decode cX0_whoFits 24 = .ok (.aload_n 0, 1) := by decide +kernel
theorem dX0_whoFits_25 : decode cX0_whoFits 25 = .ok (.aload_n 1, 1) := by decide +kernel
theorem dX0_whoFits_26 : decode cX0_whoFits 26 = .ok (.iload_n 2, 1) := by decide +kernel
theorem dX0_whoFits_27 : decode cX0_whoFits 27 = .ok (.invokevirtual 76, 3) := by decide +kernel
theorem dX0_whoFits_30 : decode cX0_whoFits 30 = .ok (.iconst 0, 1) := by decide +kernel
theorem dX0_whoFits_31 : decode cX0_whoFits 31 = .ok (.istore 4, 2) := by decide +kernel
theorem dX0_whoFits_33 : decode cX0_whoFits 33 = .ok (.iload 4, 2) := by decide +kernel
theorem dX0_whoFits_35 : decode cX0_whoFits 35 = .ok (.bipush 30, 2) := by decide +kernel
theorem dX0_whoFits_37 : decode cX0_whoFits 37 = .ok (.if_icmp .gt 73, 3) := by decide +kernel
theorem dX0_whoFits_40 : decode cX0_whoFits 40 = .ok (.iconst 0, 1) := by decide +kernel
theorem dX0_whoFits_41 : decode cX0_whoFits 41 = .ok (.istore 5, 2) := by decide +kernel
theorem dX0_whoFits_43 : decode cX0_whoFits 43 = .ok (.iload 5, 2) := by decide +kernel
theorem dX0_whoFits_45 : decode cX0_whoFits 45 = .ok (.aload_n 0, 1) := by decide +kernel
theorem dX0_whoFits_46 : decode cX0_whoFits 46 = .ok (.getfield 29, 3) := by decide +kernel
theorem dX0_whoFits_49 : decode cX0_whoFits 49 = .ok (.getfield 50, 3) := by decide +kernel
theorem dX0_whoFits_52 : decode cX0_whoFits 52 = .ok (.getfield 54, 3) := by decide +kernel
theorem dX0_whoFits_55 : decode cX0_whoFits 55 = .ok (.if_icmp .ge 49, 3) := by decide +kernel
theorem dX0_whoFits_58 : decode cX0_whoFits 58 = .ok (.aload_n 0, 1) := by decide +kernel
theorem dX0_whoFits_59 : decode cX0_whoFits 59 = .ok (.aload_n 0, 1) := by decide +kernel
theorem dX0_whoFits_60 : decode cX0_whoFits 60 = .ok (.getfield 18, 3) := by decide +kernel
theorem dX0_whoFits_63 : decode cX0_whoFits 63 = .ok (.iload 5, 2) := by decide +kernel
theorem dX0_whoFits_65 : decode cX0_whoFits 65 = .ok (.aaload, 1) := by decide +kernel
theorem dX0_whoFits_66 : decode cX0_whoFits 66 = .ok (.iload 4, 2) := by decide +kernel
theorem dX0_whoFits_68 : decode cX0_whoFits 68 = .ok (.invokevirtual 79, 3) := by decide +kernel
theorem dX0_whoFits_71 : decode cX0_whoFits 71 = .ok (.ifCond .ne 12, 3) := by decide +kernel
theorem dX0_whoFits_74 : decode cX0_whoFits 74 = .ok (.iload_n 3, 1) := by decide +kernel
theorem dX0_whoFits_75 : decode cX0_whoFits 75 = .ok (.iconst 1, 1) := by decide +kernel
theorem dX0_whoFits_76 : decode cX0_whoFits 76 = .ok (.iload 5, 2) := by decide +kernel
theorem dX0_whoFits_78 : decode cX0_whoFits 78 = .ok (.ishl, 1) := by decide +kernel
theorem dX0_whoFits_79 : decode cX0_whoFits 79 = .ok (.iconst (-1), 1) := by decide +kernel
theorem dX0_whoFits_80 : decode cX0_whoFits 80 = .ok (.ixor, 1) := by decide +kernel
theorem dX0_whoFits_81 : decode cX0_whoFits 81 = .ok (.iand, 1) := by decide +kernel
theorem dX0_whoFits_82 : decode cX0_whoFits 82 = .ok (.istore_n 3, 1) := by decide +kernel
theorem dX0_whoFits_83 : decode cX0_whoFits 83 = .ok (.aload_n 0, 1) := by decide +kernel
theorem dX0_whoFits_84 : decode cX0_whoFits 84 = .ok (.getfield 29, 3) := by decide +kernel
theorem dX0_whoFits_87 : decode cX0_whoFits 87 = .ok (.aload_n 0, 1) := by decide +kernel
theorem dX0_whoFits_88 : decode cX0_whoFits 88 = .ok (.getfield 18, 3) := by decide +kernel
theorem dX0_whoFits_91 : decode cX0_whoFits 91 = .ok (.iload 5, 2) := by decide +kernel
theorem dX0_whoFits_93 : decode cX0_whoFits 93 = .ok (.aaload, 1) := by decide +kernel
theorem dX0_whoFits_94 : decode cX0_whoFits 94 = .ok (.iconst 0, 1) := by decide +kernel
theorem dX0_whoFits_95 : decode cX0_whoFits 95 = .ok (.invokevirtual 37, 3) := by decide +kernel
theorem dX0_whoFits_98 : decode cX0_whoFits 98 = .ok (.iinc 5 1, 3) := by decide +kernel
theorem dX0_whoFits_101 : decode cX0_whoFits 101 = .ok (.goto (-58), 3) := by decide +kernel
theorem dX0_whoFits_104 : decode cX0_whoFits 104 = .ok (.iinc 4 1, 3) := by decide +kernel
theorem dX0_whoFits_107 : decode cX0_whoFits 107 = .ok (.goto (-74), 3) := by decide +kernel
theorem dX0_whoFits_110 : decode cX0_whoFits 110 = .ok (.iload_n 3, 1) := by decide +kernel
theorem dX0_whoFits_111 : decode cX0_whoFits 111 = .ok (.ireturn, 1) := by decide +kernel
theorem dX0_isAsSeen_0 : decode cX0_isAsSeen 0 = .ok (.iconst 0, 1) := by decide +kernel
theorem dX0_isAsSeen_1 : decode cX0_isAsSeen 1 = .ok (.istore_n 3, 1) := by decide +kernel
theorem dX0_isAsSeen_2 : decode cX0_isAsSeen 2 = .ok (.iload_n 3, 1) := by decide +kernel
theorem dX0_isAsSeen_3 : decode cX0_isAsSeen 3 = .ok (.aload_n 0, 1) := by decide +kernel
theorem dX0_isAsSeen_4 : decode cX0_isAsSeen 4 = .ok (.getfield 73, 3) := by decide +kernel
theorem dX0_isAsSeen_7 : decode cX0_isAsSeen 7 = .ok (.iconst 4, 1) := by decide +kernel
theorem dX0_isAsSeen_8 : decode cX0_isAsSeen 8 = .ok (.imul, 1) := by decide +kernel
theorem dX0_isAsSeen_9 : decode cX0_isAsSeen 9 = .ok (.if_icmp .ge 94, 3) := by decide +kernel
theorem dX0_isAsSeen_12 : decode cX0_isAsSeen 12 = .ok (.iload_n 3, 1) := by decide +kernel
theorem dX0_isAsSeen_13 : decode cX0_isAsSeen 13 = .ok (.iconst 4, 1) := by decide +kernel
theorem dX0_isAsSeen_14 : decode cX0_isAsSeen 14 = .ok (.iadd, 1) := by decide +kernel
theorem dX0_isAsSeen_15 : decode cX0_isAsSeen 15 = .ok (.aload_n 0, 1) := by decide +kernel
theorem dX0_isAsSeen_16 : decode cX0_isAsSeen 16 = .ok (.getfield 22, 3) := by decide +kernel
theorem dX0_isAsSeen_19 : decode cX0_isAsSeen 19 = .ok (.arraylength, 1) := by decide +kernel
theorem dX0_isAsSeen_20 : decode cX0_isAsSeen 20 = .ok (.if_icmp .gt 83, 3) := by decide +kernel
theorem dX0_isAsSeen_23 : decode cX0_isAsSeen 23 = .ok (.aload_n 0, 1) := by decide +kernel
theorem dX0_isAsSeen_24 : decode cX0_isAsSeen 24 = .ok (.getfield 22, 3) := by decide +kernel
theorem dX0_isAsSeen_27 : decode cX0_isAsSeen 27 = .ok (.iload_n 3, 1) := by decide +kernel
theorem dX0_isAsSeen_28 : decode cX0_isAsSeen 28 = .ok (.iaload, 1) := by decide +kernel
theorem dX0_isAsSeen_29 : decode cX0_isAsSeen 29 = .ok (.iload_n 2, 1) := by decide +kernel
theorem dX0_isAsSeen_30 : decode cX0_isAsSeen 30 = .ok (.if_icmp .ne 67, 3) := by decide +kernel
theorem dX0_isAsSeen_33 : decode cX0_isAsSeen 33 = .ok (.aload_n 0, 1) := by decide +kernel
theorem dX0_isAsSeen_34 : decode cX0_isAsSeen 34 = .ok (.getfield 29, 3) := by decide +kernel
theorem dX0_isAsSeen_37 : decode cX0_isAsSeen 37 = .ok (.getfield 50, 3) := by decide +kernel
theorem dX0_isAsSeen_40 : decode cX0_isAsSeen 40 = .ok (.aload_n 0, 1) := by decide +kernel
theorem dX0_isAsSeen_41 : decode cX0_isAsSeen 41 = .ok (.getfield 22, 3) := by decide +kernel
theorem dX0_isAsSeen_44 : decode cX0_isAsSeen 44 = .ok (.iload_n 3, 1) := by decide +kernel
theorem dX0_isAsSeen_45 : decode cX0_isAsSeen 45 = .ok (.iconst 1, 1) := by decide +kernel
theorem dX0_isAsSeen_46 : decode cX0_isAsSeen 46 = .ok (.iadd, 1) := by decide +kernel
theorem dX0_isAsSeen_47 : decode cX0_isAsSeen 47 = .ok (.iaload, 1) := by decide +kernel
theorem dX0_isAsSeen_48 : decode cX0_isAsSeen 48 = .ok (.aload_n 0, 1) := by decide +kernel
theorem dX0_isAsSeen_49 : decode cX0_isAsSeen 49 = .ok (.getfield 22, 3) := by decide +kernel
theorem dX0_isAsSeen_52 : decode cX0_isAsSeen 52 = .ok (.iload_n 3, 1) := by decide +kernel
theorem dX0_isAsSeen_53 : decode cX0_isAsSeen 53 = .ok (.iconst 2, 1) := by decide +kernel
theorem dX0_isAsSeen_54 : decode cX0_isAsSeen 54 = .ok (.iadd, 1) := by decide +kernel
theorem dX0_isAsSeen_55 : decode cX0_isAsSeen 55 = .ok (.iaload, 1) := by decide +kernel
theorem dX0_isAsSeen_56 : decode cX0_isAsSeen 56 = .ok (.invokevirtual 65, 3) := by decide +kernel
theorem dX0_isAsSeen_59 : decode cX0_isAsSeen 59 = .ok (.istore 4, 2) := by decide +kernel
theorem dX0_isAsSeen_61 : decode cX0_isAsSeen 61 = .ok (.aload_n 1, 1) := by decide +kernel
theorem dX0_isAsSeen_62 : decode cX0_isAsSeen 62 = .ok (.getfield 43, 3) := by decide +kernel
theorem dX0_isAsSeen_65 : decode cX0_isAsSeen 65 = .ok (.sipush 999, 3) := by decide +kernel
theorem dX0_isAsSeen_68 : decode cX0_isAsSeen 68 = .ok (.if_icmp .gt 27, 3) := by decide +kernel
theorem dX0_isAsSeen_71 : decode cX0_isAsSeen 71 = .ok (.iload 4, 2) := by decide +kernel
theorem dX0_isAsSeen_73 : decode cX0_isAsSeen 73 = .ok (.iconst (-1), 1) := by decide +kernel
theorem dX0_isAsSeen_74 : decode cX0_isAsSeen 74 = .ok (.if_icmp .eq 21, 3) := by decide +kernel
theorem dX0_isAsSeen_77 : decode cX0_isAsSeen 77 = .ok (.aload_n 1, 1) := by decide +kernel
theorem dX0_isAsSeen_78 : decode cX0_isAsSeen 78 = .ok (.getfield 47, 3) := by decide +kernel
theorem dX0_isAsSeen_81 : decode cX0_isAsSeen 81 = .ok (.iload 4, 2) := by decide +kernel
theorem dX0_isAsSeen_83 : decode cX0_isAsSeen 83 = .ok (.iaload, 1) := by decide +kernel
theorem dX0_isAsSeen_84 : decode cX0_isAsSeen 84 = .ok (.aload_n 0, 1) := by decide +kernel
theorem dX0_isAsSeen_85 : decode cX0_isAsSeen 85 = .ok (.getfield 22, 3) := by decide +kernel
theorem dX0_isAsSeen_88 : decode cX0_isAsSeen 88 = .ok (.iload_n 3, 1) := by decide +kernel
theorem dX0_isAsSeen_89 : decode cX0_isAsSeen 89 = .ok (.iconst 3, 1) := by decide +kernel
theorem dX0_isAsSeen_90 : decode cX0_isAsSeen 90 = .ok (.iadd, 1) := by decide +kernel
theorem dX0_isAsSeen_91 : decode cX0_isAsSeen 91 = .ok (.iaload, 1) := by decide +kernel
theorem dX0_isAsSeen_92 : decode cX0_isAsSeen 92 = .ok (.if_icmp .eq 5, 3) := by decide +kernel
theorem dX0_isAsSeen_95 : decode cX0_isAsSeen 95 = .ok (.iconst 0, 1) := by decide +kernel
theorem dX0_isAsSeen_96 : decode cX0_isAsSeen 96 = .ok (.ireturn, 1) := by decide +kernel
theorem dX0_isAsSeen_97 : decode cX0_isAsSeen 97 = .ok (.iinc 3 4, 3) := by decide +kernel
theorem dX0_isAsSeen_100 : decode cX0_isAsSeen 100 = .ok (.goto (-98), 3) := by decide +kernel
theorem dX0_isAsSeen_103 : decode cX0_isAsSeen 103 = .ok (.iconst 1, 1) := by decide +kernel
theorem dX0_isAsSeen_104 : decode cX0_isAsSeen 104 = .ok (.ireturn, 1) := by decide +kernel
theorem dX0_findTelling_0 : decode cX0_findTelling 0 = .ok (.aload_n 0, 1) := by decide +kernel
theorem dX0_findTelling_1 : decode cX0_findTelling 1 = .ok (.iconst 0, 1) := by decide +kernel
theorem dX0_findTelling_2 : decode cX0_findTelling 2 = .ok (.putfield 83, 3) := by decide +kernel
theorem dX0_findTelling_5 : decode cX0_findTelling 5 = .ok (.aload_n 0, 1) := by decide +kernel
theorem dX0_findTelling_6 : decode cX0_findTelling 6 = .ok (.iconst 0, 1) := by decide +kernel
theorem dX0_findTelling_7 : decode cX0_findTelling 7 = .ok (.putfield 86, 3) := by decide +kernel
theorem dX0_findTelling_10 : decode cX0_findTelling 10 = .ok (.aload_n 0, 1) := by decide +kernel
theorem dX0_findTelling_11 : decode cX0_findTelling 11 = .ok (.bipush 8, 2) := by decide +kernel
theorem dX0_findTelling_13 : decode cX0_findTelling 13 = .ok (.putfield 89, 3) := by decide +kernel
theorem dX0_findTelling_16 : decode cX0_findTelling 16 = .ok (.aload_n 0, 1) := by decide +kernel
theorem dX0_findTelling_17 : decode cX0_findTelling 17 = .ok (.aload_n 1, 1) := by decide +kernel
theorem dX0_findTelling_18 : decode cX0_findTelling 18 = .ok (.iload_n 2, 1) := by decide +kernel
theorem dX0_findTelling_19 : decode cX0_findTelling 19 = .ok (.invokevirtual 76, 3) := by decide +kernel
theorem dX0_findTelling_22 : decode cX0_findTelling 22 = .ok (.iconst 0, 1) := by decide +kernel
theorem dX0_findTelling_23 : decode cX0_findTelling 23 = .ok (.istore 4, 2) := by decide +kernel
theorem dX0_findTelling_25 : decode cX0_findTelling 25 = .ok (.iload 4, 2) := by decide +kernel
theorem dX0_findTelling_27 : decode cX0_findTelling 27 = .ok (.bipush 30, 2) := by decide +kernel
theorem dX0_findTelling_29 : decode cX0_findTelling 29 = .ok (.if_icmp .gt 129, 3) := by decide +kernel
theorem dX0_findTelling_32 : decode cX0_findTelling 32 = .ok (.aload_n 1, 1) := by decide +kernel
theorem dX0_findTelling_33 : decode cX0_findTelling 33 = .ok (.getfield 43, 3) := by decide +kernel
theorem dX0_findTelling_36 : decode cX0_findTelling 36 = .ok (.iload 4, 2) := by decide +kernel
theorem dX0_findTelling_38 : decode cX0_findTelling 38 = .ok (.iadd, 1) := by decide +kernel
theorem dX0_findTelling_39 : decode cX0_findTelling 39 = .ok (.sipush 999, 3) := by decide +kernel
theorem dX0_findTelling_42 : decode cX0_findTelling 42 = .ok (.if_icmp .gt 116, 3) := by decide +kernel
theorem dX0_findTelling_45 : decode cX0_findTelling 45 = .ok (.aload_n 0, 1) := by decide +kernel
theorem dX0_findTelling_46 : decode cX0_findTelling 46 = .ok (.getfield 89, 3) := by decide +kernel
theorem dX0_findTelling_49 : decode cX0_findTelling 49 = .ok (.iconst 1, 1) := by decide +kernel
theorem dX0_findTelling_50 : decode cX0_findTelling 50 = .ok (.if_icmp .le 108, 3) := by decide +kernel
theorem dX0_findTelling_53 : decode cX0_findTelling 53 = .ok (.iconst 0, 1) := by decide +kernel
theorem dX0_findTelling_54 : decode cX0_findTelling 54 = .ok (.istore 5, 2) := by decide +kernel
theorem dX0_findTelling_56 : decode cX0_findTelling 56 = .ok (.iload 5, 2) := by decide +kernel
theorem dX0_findTelling_58 : decode cX0_findTelling 58 = .ok (.aload_n 0, 1) := by decide +kernel
theorem dX0_findTelling_59 : decode cX0_findTelling 59 = .ok (.getfield 29, 3) := by decide +kernel
theorem dX0_findTelling_62 : decode cX0_findTelling 62 = .ok (.getfield 50, 3) := by decide +kernel
theorem dX0_findTelling_65 : decode cX0_findTelling 65 = .ok (.invokevirtual 92, 3) := by decide +kernel
theorem dX0_findTelling_68 : decode cX0_findTelling 68 = .ok (.if_icmp .ge 45, 3) := by decide +kernel
theorem dX0_findTelling_71 : decode cX0_findTelling 71 = .ok (.aload_n 0, 1) := by decide +kernel
theorem dX0_findTelling_72 : decode cX0_findTelling 72 = .ok (.iload_n 3, 1) := by decide +kernel
theorem dX0_findTelling_73 : decode cX0_findTelling 73 = .ok (.iload 5, 2) := by decide +kernel
theorem dX0_findTelling_75 : decode cX0_findTelling 75 = .ok (.invokevirtual 96, 3) := by decide +kernel
theorem dX0_findTelling_78 : decode cX0_findTelling 78 = .ok (.istore 6, 2) := by decide +kernel
theorem dX0_findTelling_80 : decode cX0_findTelling 80 = .ok (.iload 6, 2) := by decide +kernel
theorem dX0_findTelling_82 : decode cX0_findTelling 82 = .ok (.aload_n 0, 1) := by decide +kernel
theorem dX0_findTelling_83 : decode cX0_findTelling 83 = .ok (.getfield 89, 3) := by decide +kernel
theorem dX0_findTelling_86 : decode cX0_findTelling 86 = .ok (.if_icmp .ge 21, 3) := by decide +kernel
theorem dX0_findTelling_89 : decode cX0_findTelling 89 = .ok (.aload_n 0, 1) := by decide +kernel
theorem dX0_findTelling_90 : decode cX0_findTelling 90 = .ok (.iload 4, 2) := by decide +kernel
theorem dX0_findTelling_92 : decode cX0_findTelling 92 = .ok (.putfield 83, 3) := by decide +kernel
theorem dX0_findTelling_95 : decode cX0_findTelling 95 = .ok (.aload_n 0, 1) := by decide +kernel
theorem dX0_findTelling_96 : decode cX0_findTelling 96 = .ok (.iload 5, 2) := by decide +kernel
theorem dX0_findTelling_98 : decode cX0_findTelling 98 = .ok (.putfield 86, 3) := by decide +kernel
theorem dX0_findTelling_101 : decode cX0_findTelling 101 = .ok (.aload_n 0, 1) := by decide +kernel
theorem dX0_findTelling_102 : decode cX0_findTelling 102 = .ok (.iload 6, 2) := by decide +kernel
theorem dX0_findTelling_104 : decode cX0_findTelling 104 = .ok (.putfield 89, 3) := by decide +kernel
theorem dX0_findTelling_107 : decode cX0_findTelling 107 = .ok (.iinc 5 1, 3) := by decide +kernel
theorem dX0_findTelling_110 : decode cX0_findTelling 110 = .ok (.goto (-54), 3) := by decide +kernel
theorem dX0_findTelling_113 : decode cX0_findTelling 113 = .ok (.iconst 0, 1) := by decide +kernel
theorem dX0_findTelling_114 : decode cX0_findTelling 114 = .ok (.istore 5, 2) := by decide +kernel
theorem dX0_findTelling_116 : decode cX0_findTelling 116 = .ok (.iload 5, 2) := by decide +kernel
theorem dX0_findTelling_118 : decode cX0_findTelling 118 = .ok (.aload_n 0, 1) := by decide +kernel
theorem dX0_findTelling_119 : decode cX0_findTelling 119 = .ok (.getfield 29, 3) := by decide +kernel
theorem dX0_findTelling_122 : decode cX0_findTelling 122 = .ok (.getfield 50, 3) := by decide +kernel
theorem dX0_findTelling_125 : decode cX0_findTelling 125 = .ok (.getfield 54, 3) := by decide +kernel
theorem dX0_findTelling_128 : decode cX0_findTelling 128 = .ok (.if_icmp .ge 24, 3) := by decide +kernel
theorem dX0_findTelling_131 : decode cX0_findTelling 131 = .ok (.aload_n 0, 1) := by decide +kernel
theorem dX0_findTelling_132 : decode cX0_findTelling 132 = .ok (.getfield 29, 3) := by decide +kernel
theorem dX0_findTelling_135 : decode cX0_findTelling 135 = .ok (.aload_n 0, 1) := by decide +kernel
theorem dX0_findTelling_136 : decode cX0_findTelling 136 = .ok (.getfield 18, 3) := by decide +kernel
theorem dX0_findTelling_139 : decode cX0_findTelling 139 = .ok (.iload 5, 2) := by decide +kernel
theorem dX0_findTelling_141 : decode cX0_findTelling 141 = .ok (.aaload, 1) := by decide +kernel
theorem dX0_findTelling_142 : decode cX0_findTelling 142 = .ok (.iconst 0, 1) := by decide +kernel
theorem dX0_findTelling_143 : decode cX0_findTelling 143 = .ok (.invokevirtual 37, 3) := by decide +kernel
theorem dX0_findTelling_146 : decode cX0_findTelling 146 = .ok (.iinc 5 1, 3) := by decide +kernel
theorem dX0_findTelling_149 : decode cX0_findTelling 149 = .ok (.goto (-33), 3) := by decide +kernel
theorem dX0_findTelling_152 : decode cX0_findTelling 152 = .ok (.iinc 4 1, 3) := by decide +kernel
theorem dX0_findTelling_155 : decode cX0_findTelling 155 = .ok (.goto (-130), 3) := by decide +kernel
theorem dX0_findTelling_158 : decode cX0_findTelling 158 = .ok (.return_, 1) := by decide +kernel
theorem dX0_mostLeft_0 : decode cX0_mostLeft 0 = .ok (.iconst 0, 1) := by decide +kernel
theorem dX0_mostLeft_1 : decode cX0_mostLeft 1 = .ok (.istore_n 3, 1) := by decide +kernel
theorem dX0_mostLeft_2 : decode cX0_mostLeft 2 = .ok (.iconst 0, 1) := by decide +kernel
theorem dX0_mostLeft_3 : decode cX0_mostLeft 3 = .ok (.istore 4, 2) := by decide +kernel
theorem dX0_mostLeft_5 : decode cX0_mostLeft 5 = .ok (.iload 4, 2) := by decide +kernel
theorem dX0_mostLeft_7 : decode cX0_mostLeft 7 = .ok (.aload_n 0, 1) := by decide +kernel
theorem dX0_mostLeft_8 : decode cX0_mostLeft 8 = .ok (.getfield 29, 3) := by decide +kernel
theorem dX0_mostLeft_11 : decode cX0_mostLeft 11 = .ok (.getfield 50, 3) := by decide +kernel
theorem dX0_mostLeft_14 : decode cX0_mostLeft 14 = .ok (.getfield 54, 3) := by decide +kernel
theorem dX0_mostLeft_17 : decode cX0_mostLeft 17 = .ok (.if_icmp .ge 99, 3) := by decide +kernel
theorem dX0_mostLeft_20 : decode cX0_mostLeft 20 = .ok (.iconst 0, 1) := by decide +kernel
theorem dX0_mostLeft_21 : decode cX0_mostLeft 21 = .ok (.istore 5, 2) := by decide +kernel
theorem dX0_mostLeft_23 : decode cX0_mostLeft 23 = .ok (.iconst 0, 1) := by decide +kernel
theorem dX0_mostLeft_24 : decode cX0_mostLeft 24 = .ok (.istore 6, 2) := by decide +kernel
theorem dX0_mostLeft_26 : decode cX0_mostLeft 26 = .ok (.iload 6, 2) := by decide +kernel
theorem dX0_mostLeft_28 : decode cX0_mostLeft 28 = .ok (.aload_n 0, 1) := by decide +kernel
theorem dX0_mostLeft_29 : decode cX0_mostLeft 29 = .ok (.getfield 29, 3) := by decide +kernel
theorem dX0_mostLeft_32 : decode cX0_mostLeft 32 = .ok (.getfield 50, 3) := by decide +kernel
theorem dX0_mostLeft_35 : decode cX0_mostLeft 35 = .ok (.getfield 54, 3) := by decide +kernel
theorem dX0_mostLeft_38 : decode cX0_mostLeft 38 = .ok (.if_icmp .ge 59, 3) := by decide +kernel
theorem dX0_mostLeft_41 : decode cX0_mostLeft 41 = .ok (.iload_n 1, 1) := by decide +kernel
theorem dX0_mostLeft_42 : decode cX0_mostLeft 42 = .ok (.iload 4, 2) := by decide +kernel
theorem dX0_mostLeft_44 : decode cX0_mostLeft 44 = .ok (.ishr, 1) := by decide +kernel
theorem dX0_mostLeft_45 : decode cX0_mostLeft 45 = .ok (.iconst 1, 1) := by decide +kernel
theorem dX0_mostLeft_46 : decode cX0_mostLeft 46 = .ok (.iand, 1) := by decide +kernel
theorem dX0_mostLeft_47 : decode cX0_mostLeft 47 = .ok (.iconst 1, 1) := by decide +kernel
theorem dX0_mostLeft_48 : decode cX0_mostLeft 48 = .ok (.if_icmp .ne 49, 3) := by decide +kernel
theorem dX0_mostLeft_51 : decode cX0_mostLeft 51 = .ok (.iload_n 1, 1) := by decide +kernel
theorem dX0_mostLeft_52 : decode cX0_mostLeft 52 = .ok (.iload 6, 2) := by decide +kernel
theorem dX0_mostLeft_54 : decode cX0_mostLeft 54 = .ok (.ishr, 1) := by decide +kernel
theorem dX0_mostLeft_55 : decode cX0_mostLeft 55 = .ok (.iconst 1, 1) := by decide +kernel
theorem dX0_mostLeft_56 : decode cX0_mostLeft 56 = .ok (.iand, 1) := by decide +kernel
theorem dX0_mostLeft_57 : decode cX0_mostLeft 57 = .ok (.iconst 1, 1) := by decide +kernel
theorem dX0_mostLeft_58 : decode cX0_mostLeft 58 = .ok (.if_icmp .ne 33, 3) := by decide +kernel
theorem dX0_mostLeft_61 : decode cX0_mostLeft 61 = .ok (.aload_n 0, 1) := by decide +kernel
theorem dX0_mostLeft_62 : decode cX0_mostLeft 62 = .ok (.getfield 18, 3) := by decide +kernel
theorem dX0_mostLeft_65 : decode cX0_mostLeft 65 = .ok (.iload 6, 2) := by decide +kernel
theorem dX0_mostLeft_67 : decode cX0_mostLeft 67 = .ok (.aaload, 1) := by decide +kernel
theorem dX0_mostLeft_68 : decode cX0_mostLeft 68 = .ok (.getfield 47, 3) := by decide +kernel
theorem dX0_mostLeft_71 : decode cX0_mostLeft 71 = .ok (.iload_n 2, 1) := by decide +kernel
theorem dX0_mostLeft_72 : decode cX0_mostLeft 72 = .ok (.iaload, 1) := by decide +kernel
theorem dX0_mostLeft_73 : decode cX0_mostLeft 73 = .ok (.aload_n 0, 1) := by decide +kernel
theorem dX0_mostLeft_74 : decode cX0_mostLeft 74 = .ok (.getfield 18, 3) := by decide +kernel
theorem dX0_mostLeft_77 : decode cX0_mostLeft 77 = .ok (.iload 4, 2) := by decide +kernel
theorem dX0_mostLeft_79 : decode cX0_mostLeft 79 = .ok (.aaload, 1) := by decide +kernel
theorem dX0_mostLeft_80 : decode cX0_mostLeft 80 = .ok (.getfield 47, 3) := by decide +kernel
theorem dX0_mostLeft_83 : decode cX0_mostLeft 83 = .ok (.iload_n 2, 1) := by decide +kernel
theorem dX0_mostLeft_84 : decode cX0_mostLeft 84 = .ok (.iaload, 1) := by decide +kernel
theorem dX0_mostLeft_85 : decode cX0_mostLeft 85 = .ok (.if_icmp .ne 6, 3) := by decide +kernel
theorem dX0_mostLeft_88 : decode cX0_mostLeft 88 = .ok (.iinc 5 1, 3) := by decide +kernel
theorem dX0_mostLeft_91 : decode cX0_mostLeft 91 = .ok (.iinc 6 1, 3) := by decide +kernel
theorem dX0_mostLeft_94 : decode cX0_mostLeft 94 = .ok (.goto (-68), 3) := by decide +kernel
theorem dX0_mostLeft_97 : decode cX0_mostLeft 97 = .ok (.iload 5, 2) := by decide +kernel
theorem dX0_mostLeft_99 : decode cX0_mostLeft 99 = .ok (.iload_n 3, 1) := by decide +kernel
theorem dX0_mostLeft_100 : decode cX0_mostLeft 100 = .ok (.if_icmp .le 8, 3) := by decide +kernel
theorem dX0_mostLeft_103 : decode cX0_mostLeft 103 = .ok (.iload 5, 2) := by decide +kernel
theorem dX0_mostLeft_105 : decode cX0_mostLeft 105 = .ok (.goto 4, 3) := by decide +kernel
theorem dX0_mostLeft_108 : decode cX0_mostLeft 108 = .ok (.iload_n 3, 1) := by decide +kernel
theorem dX0_mostLeft_109 : decode cX0_mostLeft 109 = .ok (.istore_n 3, 1) := by decide +kernel
theorem dX0_mostLeft_110 : decode cX0_mostLeft 110 = .ok (.iinc 4 1, 3) := by decide +kernel
theorem dX0_mostLeft_113 : decode cX0_mostLeft 113 = .ok (.goto (-108), 3) := by decide +kernel
theorem dX0_mostLeft_116 : decode cX0_mostLeft 116 = .ok (.iload_n 3, 1) := by decide +kernel
theorem dX0_mostLeft_117 : decode cX0_mostLeft 117 = .ok (.ireturn, 1) := by decide +kernel
theorem dX1_init_0 : decode cX1_init 0 = .ok (.aload_n 0, 1) := by decide +kernel
theorem dX1_init_1 : decode cX1_init 1 = .ok (.invokespecial 3, 3) := by decide +kernel
theorem dX1_init_4 : decode cX1_init 4 = .ok (.aload_n 0, 1) := by decide +kernel
theorem dX1_init_5 : decode cX1_init 5 = .ok (.sipush 1600, 3) := by decide +kernel
theorem dX1_init_8 : decode cX1_init 8 = .ok (.newarray .int, 2) := by decide +kernel
theorem dX1_init_10 : decode cX1_init 10 = .ok (.putfield 9, 3) := by decide +kernel
theorem dX1_init_13 : decode cX1_init 13 = .ok (.aload_n 0, 1) := by decide +kernel
theorem dX1_init_14 : decode cX1_init 14 = .ok (.bipush 64, 2) := by decide +kernel
theorem dX1_init_16 : decode cX1_init 16 = .ok (.newarray .long, 2) := by decide +kernel
theorem dX1_init_18 : decode cX1_init 18 = .ok (.putfield 15, 3) := by decide +kernel
theorem dX1_init_21 : decode cX1_init 21 = .ok (.return_, 1) := by decide +kernel
theorem dX1_add_0 : decode cX1_add 0 = .ok (.aload_n 0, 1) := by decide +kernel
theorem dX1_add_1 : decode cX1_add 1 = .ok (.getfield 19, 3) := by decide +kernel
theorem dX1_add_4 : decode cX1_add 4 = .ok (.aload_n 0, 1) := by decide +kernel
theorem dX1_add_5 : decode cX1_add 5 = .ok (.getfield 9, 3) := by decide +kernel
theorem dX1_add_8 : decode cX1_add 8 = .ok (.arraylength, 1) := by decide +kernel
theorem dX1_add_9 : decode cX1_add 9 = .ok (.if_icmp .ge 23, 3) := by decide +kernel
theorem dX1_add_12 : decode cX1_add 12 = .ok (.aload_n 0, 1) := by decide +kernel
theorem dX1_add_13 : decode cX1_add 13 = .ok (.getfield 9, 3) := by decide +kernel
theorem dX1_add_16 : decode cX1_add 16 = .ok (.aload_n 0, 1) := by decide +kernel
theorem dX1_add_17 : decode cX1_add 17 = .ok (.getfield 19, 3) := by decide +kernel
theorem dX1_add_20 : decode cX1_add 20 = .ok (.iload_n 1, 1) := by decide +kernel
theorem dX1_add_21 : decode cX1_add 21 = .ok (.iastore, 1) := by decide +kernel
theorem dX1_add_22 : decode cX1_add 22 = .ok (.aload_n 0, 1) := by decide +kernel
theorem dX1_add_23 : decode cX1_add 23 = .ok (.dup, 1) := by decide +kernel
theorem dX1_add_24 : decode cX1_add 24 = .ok (.getfield 19, 3) := by decide +kernel
theorem dX1_add_27 : decode cX1_add 27 = .ok (.iconst 1, 1) := by decide +kernel
theorem dX1_add_28 : decode cX1_add 28 = .ok (.iadd, 1) := by decide +kernel
theorem dX1_add_29 : decode cX1_add 29 = .ok (.putfield 19, 3) := by decide +kernel
theorem dX1_add_32 : decode cX1_add 32 = .ok (.return_, 1) := by decide +kernel
theorem dX1_addWord_0 : decode cX1_addWord 0 = .ok (.aload_n 0, 1) := by decide +kernel
theorem dX1_addWord_1 : decode cX1_addWord 1 = .ok (.iconst (-1), 1) := by decide +kernel
theorem dX1_addWord_2 : decode cX1_addWord 2 = .ok (.iload_n 1, 1) := by decide +kernel
theorem dX1_addWord_3 : decode cX1_addWord 3 = .ok (.isub, 1) := by decide +kernel
theorem dX1_addWord_4 : decode cX1_addWord 4 = .ok (.invokevirtual 23, 3) := by decide +kernel
theorem dX1_addWord_7 : decode cX1_addWord 7 = .ok (.return_, 1) := by decide +kernel
theorem dX1_addMark_0 : decode cX1_addMark 0 = .ok (.aload_n 0, 1) := by decide +kernel
theorem dX1_addMark_1 : decode cX1_addMark 1 = .ok (.bipush (-100), 2) := by decide +kernel
theorem dX1_addMark_3 : decode cX1_addMark 3 = .ok (.iload_n 1, 1) := by decide +kernel
theorem dX1_addMark_4 : decode cX1_addMark 4 = .ok (.isub, 1) := by decide +kernel
theorem dX1_addMark_5 : decode cX1_addMark 5 = .ok (.invokevirtual 23, 3) := by decide +kernel
theorem dX1_addMark_8 : decode cX1_addMark 8 = .ok (.return_, 1) := by decide +kernel
theorem dX1_names_0 : decode cX1_names 0 = .ok (.iconst 0, 1) := by decide +kernel
theorem dX1_names_1 : decode cX1_names 1 = .ok (.istore_n 2, 1) := by decide +kernel
theorem dX1_names_2 : decode cX1_names 2 = .ok (.iload_n 2, 1) := by decide +kernel
theorem dX1_names_3 : decode cX1_names 3 = .ok (.aload_n 0, 1) := by decide +kernel
theorem dX1_names_4 : decode cX1_names 4 = .ok (.getfield 19, 3) := by decide +kernel
theorem dX1_names_7 : decode cX1_names 7 = .ok (.if_icmp .ge 32, 3) := by decide +kernel
theorem dX1_names_10 : decode cX1_names 10 = .ok (.iload_n 2, 1) := by decide +kernel
theorem dX1_names_11 : decode cX1_names 11 = .ok (.aload_n 0, 1) := by decide +kernel
theorem dX1_names_12 : decode cX1_names 12 = .ok (.getfield 9, 3) := by decide +kernel
theorem dX1_names_15 : decode cX1_names 15 = .ok (.arraylength, 1) := by decide +kernel
theorem dX1_names_16 : decode cX1_names 16 = .ok (.if_icmp .ge 23, 3) := by decide +kernel
theorem dX1_names_19 : decode cX1_names 19 = .ok (.aload_n 0, 1) := by decide +kernel
theorem dX1_names_20 : decode cX1_names 20 = .ok (.getfield 9, 3) := by decide +kernel
theorem dX1_names_23 : decode cX1_names 23 = .ok (.iload_n 2, 1) := by decide +kernel
theorem dX1_names_24 : decode cX1_names 24 = .ok (.iaload, 1) := by decide +kernel
theorem dX1_names_25 : decode cX1_names 25 = .ok (.iconst (-1), 1) := by decide +kernel
theorem dX1_names_26 : decode cX1_names 26 = .ok (.iload_n 1, 1) := by decide +kernel
theorem dX1_names_27 : decode cX1_names 27 = .ok (.isub, 1) := by decide +kernel
theorem dX1_names_28 : decode cX1_names 28 = .ok (.if_icmp .ne 5, 3) := by decide +kernel
theorem dX1_names_31 : decode cX1_names 31 = .ok (.iconst 1, 1) := by decide +kernel
theorem dX1_names_32 : decode cX1_names 32 = .ok (.ireturn, 1) := by decide +kernel
theorem dX1_names_33 : decode cX1_names 33 = .ok (.iinc 2 1, 3) := by decide +kernel
theorem dX1_names_36 : decode cX1_names 36 = .ok (.goto (-34), 3) := by decide +kernel
theorem dX1_names_39 : decode cX1_names 39 = .ok (.iconst 0, 1) := by decide +kernel
theorem dX1_names_40 : decode cX1_names 40 = .ok (.ireturn, 1) := by decide +kernel
theorem dX1_value_0 : decode cX1_value 0 = .ok (.iconst 0, 1) := by decide +kernel
theorem dX1_value_1 : decode cX1_value 1 = .ok (.istore_n 2, 1) := by decide +kernel
theorem dX1_value_2 : decode cX1_value 2 = .ok (.iconst 0, 1) := by decide +kernel
theorem dX1_value_3 : decode cX1_value 3 = .ok (.istore_n 3, 1) := by decide +kernel
theorem dX1_value_4 : decode cX1_value 4 = .ok (.iload_n 3, 1) := by decide +kernel
theorem dX1_value_5 : decode cX1_value 5 = .ok (.aload_n 0, 1) := by decide +kernel
theorem dX1_value_6 : decode cX1_value 6 = .ok (.getfield 19, 3) := by decide +kernel
theorem dX1_value_9 : decode cX1_value 9 = .ok (.if_icmp .ge 172, 3) := by decide +kernel
theorem dX1_value_12 : decode cX1_value 12 = .ok (.iload_n 3, 1) := by decide +kernel
theorem dX1_value_13 : decode cX1_value 13 = .ok (.aload_n 0, 1) := by decide +kernel
theorem dX1_value_14 : decode cX1_value 14 = .ok (.getfield 9, 3) := by decide +kernel
theorem dX1_value_17 : decode cX1_value 17 = .ok (.arraylength, 1) := by decide +kernel
theorem dX1_value_18 : decode cX1_value 18 = .ok (.if_icmp .ge 163, 3) := by decide +kernel
theorem dX1_value_21 : decode cX1_value 21 = .ok (.iload_n 2, 1) := by decide +kernel
theorem dX1_value_22 : decode cX1_value 22 = .ok (.bipush 64, 2) := by decide +kernel
theorem dX1_value_24 : decode cX1_value 24 = .ok (.if_icmp .ge 157, 3) := by decide +kernel
theorem dX1_value_27 : decode cX1_value 27 = .ok (.iconst (-1), 1) := by decide +kernel
theorem dX1_value_28 : decode cX1_value 28 = .ok (.aload_n 0, 1) := by decide +kernel
theorem dX1_value_29 : decode cX1_value 29 = .ok (.getfield 9, 3) := by decide +kernel
theorem dX1_value_32 : decode cX1_value 32 = .ok (.iload_n 3, 1) := by decide +kernel
theorem dX1_value_33 : decode cX1_value 33 = .ok (.iaload, 1) := by decide +kernel
theorem dX1_value_34 : decode cX1_value 34 = .ok (.isub, 1) := by decide +kernel
theorem dX1_value_35 : decode cX1_value 35 = .ok (.istore 4, 2) := by decide +kernel
theorem dX1_value_37 : decode cX1_value 37 = .ok (.iload 4, 2) := by decide +kernel
theorem dX1_value_39 : decode cX1_value 39 = .ok (.ifCond .ge 22, 3) := by decide +kernel
theorem dX1_value_42 : decode cX1_value 42 = .ok (.aload_n 0, 1) := by decide +kernel
theorem dX1_value_43 : decode cX1_value 43 = .ok (.getfield 15, 3) := by decide +kernel
theorem dX1_value_46 : decode cX1_value 46 = .ok (.iload_n 2, 1) := by decide +kernel
theorem dX1_value_47 : decode cX1_value 47 = .ok (.aload_n 0, 1) := by decide +kernel
theorem dX1_value_48 : decode cX1_value 48 = .ok (.getfield 9, 3) := by decide +kernel
theorem dX1_value_51 : decode cX1_value 51 = .ok (.iload_n 3, 1) := by decide +kernel
theorem dX1_value_52 : decode cX1_value 52 = .ok (.iaload, 1) := by decide +kernel
theorem dX1_value_53 : decode cX1_value 53 = .ok (.i2l, 1) := by decide +kernel
theorem dX1_value_54 : decode cX1_value 54 = .ok (.lastore, 1) := by decide +kernel
theorem dX1_value_55 : decode cX1_value 55 = .ok (.iinc 2 1, 3) := by decide +kernel
theorem dX1_value_58 : decode cX1_value 58 = .ok (.goto 117, 3) := by decide +kernel
theorem dX1_value_61 : decode cX1_value 61 = .ok (.iload 4, 2) := by decide +kernel
theorem dX1_value_63 : decode cX1_value 63 = .ok (.invokestatic 27, 3) := by decide +kernel
theorem dX1_value_66 : decode cX1_value 66 = .ok (.ifCond .eq 20, 3) := by decide +kernel
theorem dX1_value_69 : decode cX1_value 69 = .ok (.aload_n 0, 1) := by decide +kernel
theorem dX1_value_70 : decode cX1_value 70 = .ok (.getfield 15, 3) := by decide +kernel
theorem dX1_value_73 : decode cX1_value 73 = .ok (.iload_n 2, 1) := by decide +kernel
theorem dX1_value_74 : decode cX1_value 74 = .ok (.aload_n 1, 1) := by decide +kernel
theorem dX1_value_75 : decode cX1_value 75 = .ok (.iload 4, 2) := by decide +kernel
theorem dX1_value_77 : decode cX1_value 77 = .ok (.iaload, 1) := by decide +kernel
theorem dX1_value_78 : decode cX1_value 78 = .ok (.i2l, 1) := by decide +kernel
theorem dX1_value_79 : decode cX1_value 79 = .ok (.lastore, 1) := by decide +kernel
theorem dX1_value_80 : decode cX1_value 80 = .ok (.iinc 2 1, 3) := by decide +kernel
theorem dX1_value_83 : decode cX1_value 83 = .ok (.goto 92, 3) := by decide +kernel
theorem dX1_value_86 : decode cX1_value 86 = .ok (.iload 4, 2) := by decide +kernel
theorem dX1_value_88 : decode cX1_value 88 = .ok (.bipush 23, 2) := by decide +kernel
theorem dX1_value_90 : decode cX1_value 90 = .ok (.if_icmp .eq 17, 3) := by decide +kernel
theorem dX1_value_93 : decode cX1_value 93 = .ok (.iload 4, 2) := by decide +kernel
theorem dX1_value_95 : decode cX1_value 95 = .ok (.bipush 7, 2) := by decide +kernel
theorem dX1_value_97 : decode cX1_value 97 = .ok (.if_icmp .eq 10, 3) := by decide +kernel
theorem dX1_value_100 : decode cX1_value 100 = .ok (.iload 4, 2) := by decide +kernel
theorem dX1_value_102 : decode cX1_value 102 = .ok (.bipush 10, 2) := by decide +kernel
theorem dX1_value_104 : decode cX1_value 104 = .ok (.if_icmp .ne 32, 3) := by decide +kernel
theorem dX1_value_107 : decode cX1_value 107 = .ok (.iload_n 2, 1) := by decide +kernel
theorem dX1_value_108 : decode cX1_value 108 = .ok (.ifCond .le 67, 3) := by decide +kernel
theorem dX1_value_111 : decode cX1_value 111 = .ok (.aload_n 0, 1) := by decide +kernel
theorem dX1_value_112 : decode cX1_value 112 = .ok (.getfield 15, 3) := by decide +kernel
theorem dX1_value_115 : decode cX1_value 115 = .ok (.iload_n 2, 1) := by decide +kernel
theorem dX1_value_116 : decode cX1_value 116 = .ok (.iconst 1, 1) := by decide +kernel
theorem dX1_value_117 : decode cX1_value 117 = .ok (.isub, 1) := by decide +kernel
theorem dX1_value_118 : decode cX1_value 118 = .ok (.iload 4, 2) := by decide +kernel
theorem dX1_value_120 : decode cX1_value 120 = .ok (.aload_n 0, 1) := by decide +kernel
theorem dX1_value_121 : decode cX1_value 121 = .ok (.getfield 15, 3) := by decide +kernel
theorem dX1_value_124 : decode cX1_value 124 = .ok (.iload_n 2, 1) := by decide +kernel
theorem dX1_value_125 : decode cX1_value 125 = .ok (.iconst 1, 1) := by decide +kernel
theorem dX1_value_126 : decode cX1_value 126 = .ok (.isub, 1) := by decide +kernel
theorem dX1_value_127 : decode cX1_value 127 = .ok (.laload, 1) := by decide +kernel
theorem dX1_value_128 : decode cX1_value 128 = .ok (.aload_n 1, 1) := by decide +kernel
theorem dX1_value_129 : decode cX1_value 129 = .ok (.invokestatic 31, 3) := by decide +kernel
theorem dX1_value_132 : decode cX1_value 132 = .ok (.lastore, 1) := by decide +kernel
theorem dX1_value_133 : decode cX1_value 133 = .ok (.goto 42, 3) := by decide +kernel
theorem dX1_value_136 : decode cX1_value 136 = .ok (.iload_n 2, 1) := by decide +kernel
theorem dX1_value_137 : decode cX1_value 137 = .ok (.iconst 1, 1) := by decide +kernel
theorem dX1_value_138 : decode cX1_value 138 = .ok (.if_icmp .le 37, 3) := by decide +kernel
theorem dX1_value_141 : decode cX1_value 141 = .ok (.iinc 2 (-1), 3) := by decide +kernel
theorem dX1_value_144 : decode cX1_value 144 = .ok (.aload_n 0, 1) := by decide +kernel
theorem dX1_value_145 : decode cX1_value 145 = .ok (.getfield 15, 3) := by decide +kernel
theorem dX1_value_148 : decode cX1_value 148 = .ok (.iload_n 2, 1) := by decide +kernel
theorem dX1_value_149 : decode cX1_value 149 = .ok (.iconst 1, 1) := by decide +kernel
theorem dX1_value_150 : decode cX1_value 150 = .ok (.isub, 1) := by decide +kernel
theorem dX1_value_151 : decode cX1_value 151 = .ok (.aload_n 0, 1) := by decide +kernel
theorem dX1_value_152 : decode cX1_value 152 = .ok (.getfield 9, 3) := by decide +kernel
theorem dX1_value_155 : decode cX1_value 155 = .ok (.iload_n 3, 1) := by decide +kernel
theorem dX1_value_156 : decode cX1_value 156 = .ok (.iaload, 1) := by decide +kernel
theorem dX1_value_157 : decode cX1_value 157 = .ok (.aload_n 0, 1) := by decide +kernel
theorem dX1_value_158 : decode cX1_value 158 = .ok (.getfield 15, 3) := by decide +kernel
theorem dX1_value_161 : decode cX1_value 161 = .ok (.iload_n 2, 1) := by decide +kernel
theorem dX1_value_162 : decode cX1_value 162 = .ok (.iconst 1, 1) := by decide +kernel
theorem dX1_value_163 : decode cX1_value 163 = .ok (.isub, 1) := by decide +kernel
theorem dX1_value_164 : decode cX1_value 164 = .ok (.laload, 1) := by decide +kernel
theorem dX1_value_165 : decode cX1_value 165 = .ok (.aload_n 0, 1) := by decide +kernel
theorem dX1_value_166 : decode cX1_value 166 = .ok (.getfield 15, 3) := by decide +kernel
theorem dX1_value_169 : decode cX1_value 169 = .ok (.iload_n 2, 1) := by decide +kernel
theorem dX1_value_170 : decode cX1_value 170 = .ok (.laload, 1) := by decide +kernel
theorem dX1_value_171 : decode cX1_value 171 = .ok (.invokestatic 35, 3) := by decide +kernel
theorem dX1_value_174 : decode cX1_value 174 = .ok (.lastore, 1) := by decide +kernel
theorem dX1_value_175 : decode cX1_value 175 = .ok (.iinc 3 1, 3) := by decide +kernel
theorem dX1_value_178 : decode cX1_value 178 = .ok (.goto (-174), 3) := by decide +kernel
theorem dX1_value_181 : decode cX1_value 181 = .ok (.iload_n 2, 1) := by decide +kernel
theorem dX1_value_182 : decode cX1_value 182 = .ok (.ifCond .le 12, 3) := by decide +kernel
theorem dX1_value_185 : decode cX1_value 185 = .ok (.aload_n 0, 1) := by decide +kernel
theorem dX1_value_186 : decode cX1_value 186 = .ok (.getfield 15, 3) := by decide +kernel
theorem dX1_value_189 : decode cX1_value 189 = .ok (.iconst 0, 1) := by decide +kernel
theorem dX1_value_190 : decode cX1_value 190 = .ok (.laload, 1) := by decide +kernel
theorem dX1_value_191 : decode cX1_value 191 = .ok (.goto 4, 3) := by decide +kernel
theorem dX1_value_194 : decode cX1_value 194 = .ok (.lconst 0, 1) := by decide +kernel
theorem dX1_value_195 : decode cX1_value 195 = .ok (.lreturn, 1) := by decide +kernel
theorem dX1_isFact_0 : decode cX1_isFact 0 = .ok (.iload_n 0, 1) := by decide +kernel
theorem dX1_isFact_1 : decode cX1_isFact 1 = .ok (.bipush 6, 2) := by decide +kernel
theorem dX1_isFact_3 : decode cX1_isFact 3 = .ok (.if_icmp .eq 20, 3) := by decide +kernel
theorem dX1_isFact_6 : decode cX1_isFact 6 = .ok (.iload_n 0, 1) := by decide +kernel
theorem dX1_isFact_7 : decode cX1_isFact 7 = .ok (.iconst 3, 1) := by decide +kernel
theorem dX1_isFact_8 : decode cX1_isFact 8 = .ok (.if_icmp .eq 15, 3) := by decide +kernel
theorem dX1_isFact_11 : decode cX1_isFact 11 = .ok (.iload_n 0, 1) := by decide +kernel
theorem dX1_isFact_12 : decode cX1_isFact 12 = .ok (.bipush 14, 2) := by decide +kernel
theorem dX1_isFact_14 : decode cX1_isFact 14 = .ok (.if_icmp .lt 13, 3) := by decide +kernel
theorem dX1_isFact_17 : decode cX1_isFact 17 = .ok (.iload_n 0, 1) := by decide +kernel
theorem dX1_isFact_18 : decode cX1_isFact 18 = .ok (.bipush 20, 2) := by decide +kernel
theorem dX1_isFact_20 : decode cX1_isFact 20 = .ok (.if_icmp .gt 7, 3) := by decide +kernel
theorem dX1_isFact_23 : decode cX1_isFact 23 = .ok (.iconst 1, 1) := by decide +kernel
theorem dX1_isFact_24 : decode cX1_isFact 24 = .ok (.goto 4, 3) := by decide +kernel
theorem dX1_isFact_27 : decode cX1_isFact 27 = .ok (.iconst 0, 1) := by decide +kernel
theorem dX1_isFact_28 : decode cX1_isFact 28 = .ok (.ireturn, 1) := by decide +kernel
theorem dX1_ofOne_0 : decode cX1_ofOne 0 = .ok (.iload_n 0, 1) := by decide +kernel
theorem dX1_ofOne_1 : decode cX1_ofOne 1 = .ok (.bipush 23, 2) := by decide +kernel
theorem dX1_ofOne_3 : decode cX1_ofOne 3 = .ok (.if_icmp .ne 15, 3) := by decide +kernel
theorem dX1_ofOne_6 : decode cX1_ofOne 6 = .ok (.lload_n 1, 1) := by decide +kernel
theorem dX1_ofOne_7 : decode cX1_ofOne 7 = .ok (.lconst 0, 1) := by decide +kernel
theorem dX1_ofOne_8 : decode cX1_ofOne 8 = .ok (.lcmp, 1) := by decide +kernel
theorem dX1_ofOne_9 : decode cX1_ofOne 9 = .ok (.ifCond .ne 7, 3) := by decide +kernel
theorem dX1_ofOne_12 : decode cX1_ofOne 12 = .ok (.lconst 1, 1) := by decide +kernel
theorem dX1_ofOne_13 : decode cX1_ofOne 13 = .ok (.goto 4, 3) := by decide +kernel
theorem dX1_ofOne_16 : decode cX1_ofOne 16 = .ok (.lconst 0, 1) := by decide +kernel
theorem dX1_ofOne_17 : decode cX1_ofOne 17 = .ok (.lreturn, 1) := by decide +kernel
theorem dX1_ofOne_18 : decode cX1_ofOne 18 = .ok (.lload_n 1, 1) := by decide +kernel
theorem dX1_ofOne_19 : decode cX1_ofOne 19 = .ok (.lconst 0, 1) := by decide +kernel
theorem dX1_ofOne_20 : decode cX1_ofOne 20 = .ok (.lcmp, 1) := by decide +kernel
theorem dX1_ofOne_21 : decode cX1_ofOne 21 = .ok (.ifCond .lt 11, 3) := by decide +kernel
theorem dX1_ofOne_24 : decode cX1_ofOne 24 = .ok (.lload_n 1, 1) := by decide +kernel
theorem dX1_ofOne_25 : decode cX1_ofOne 25 = .ok (.ldc2_w 39, 3) := by decide +kernel
theorem dX1_ofOne_28 : decode cX1_ofOne 28 = .ok (.lcmp, 1) := by decide +kernel
theorem dX1_ofOne_29 : decode cX1_ofOne 29 = .ok (.ifCond .lt 5, 3) := by decide +kernel
theorem dX1_ofOne_32 : decode cX1_ofOne 32 = .ok (.lconst 0, 1) := by decide +kernel
theorem dX1_ofOne_33 : decode cX1_ofOne 33 = .ok (.lreturn, 1) := by decide +kernel
theorem dX1_ofOne_34 : decode cX1_ofOne 34 = .ok (.lload_n 1, 1) := by decide +kernel
theorem dX1_ofOne_35 : decode cX1_ofOne 35 = .ok (.l2i, 1) := by decide +kernel
theorem dX1_ofOne_36 : decode cX1_ofOne 36 = .ok (.istore 4, 2) := by decide +kernel
theorem dX1_ofOne_38 : decode cX1_ofOne 38 = .ok (.iload_n 0, 1) := by decide +kernel
theorem dX1_ofOne_39 : decode cX1_ofOne 39 = .ok (.bipush 7, 2) := by decide +kernel
theorem dX1_ofOne_41 : decode cX1_ofOne 41 = .ok (.if_icmp .ne 16, 3) := by decide +kernel
theorem dX1_ofOne_44 : decode cX1_ofOne 44 = .ok (.aload_n 3, 1) := by decide +kernel
theorem dX1_ofOne_45 : decode cX1_ofOne 45 = .ok (.bipush 7, 2) := by decide +kernel
theorem dX1_ofOne_47 : decode cX1_ofOne 47 = .ok (.iaload, 1) := by decide +kernel
theorem dX1_ofOne_48 : decode cX1_ofOne 48 = .ok (.iload 4, 2) := by decide +kernel
theorem dX1_ofOne_50 : decode cX1_ofOne 50 = .ok (.ishr, 1) := by decide +kernel
theorem dX1_ofOne_51 : decode cX1_ofOne 51 = .ok (.iconst 1, 1) := by decide +kernel
theorem dX1_ofOne_52 : decode cX1_ofOne 52 = .ok (.iand, 1) := by decide +kernel
theorem dX1_ofOne_53 : decode cX1_ofOne 53 = .ok (.i2l, 1) := by decide +kernel
theorem dX1_ofOne_54 : decode cX1_ofOne 54 = .ok (.goto 11, 3) := by decide +kernel
theorem dX1_ofOne_57 : decode cX1_ofOne 57 = .ok (.aload_n 3, 1) := by decide +kernel
theorem dX1_ofOne_58 : decode cX1_ofOne 58 = .ok (.bipush 33, 2) := by decide +kernel
theorem dX1_ofOne_60 : decode cX1_ofOne 60 = .ok (.iload 4, 2) := by decide +kernel
theorem dX1_ofOne_62 : decode cX1_ofOne 62 = .ok (.iadd, 1) := by decide +kernel
theorem dX1_ofOne_63 : decode cX1_ofOne 63 = .ok (.iaload, 1) := by decide +kernel
theorem dX1_ofOne_64 : decode cX1_ofOne 64 = .ok (.i2l, 1) := by decide +kernel
theorem dX1_ofOne_65 : decode cX1_ofOne 65 = .ok (.lreturn, 1) := by decide +kernel
theorem dX1_ofTwo_0 : decode cX1_ofTwo 0 = .ok (.iload_n 0, 1) := by decide +kernel
theorem dX1_ofTwo_1 : decode cX1_ofTwo 1 = .ok (.lookupswitch 189 #[(-162, 159), (-161, 171), (-160, 147), (-147, 131), (-145, 99), (-143, 83), (-142, 115), (-26, 183), (-23, 183)], 83) := by decide +kernel
theorem dX1_ofTwo_84 : decode cX1_ofTwo 84 = .ok (.ldc2_w 41, 3) := by decide +kernel
theorem dX1_ofTwo_87 : decode cX1_ofTwo 87 = .ok (.ldc2_w 43, 3) := by decide +kernel
theorem dX1_ofTwo_90 : decode cX1_ofTwo 90 = .ok (.lload_n 1, 1) := by decide +kernel
theorem dX1_ofTwo_91 : decode cX1_ofTwo 91 = .ok (.lload_n 3, 1) := by decide +kernel
theorem dX1_ofTwo_92 : decode cX1_ofTwo 92 = .ok (.ladd, 1) := by decide +kernel
theorem dX1_ofTwo_93 : decode cX1_ofTwo 93 = .ok (.invokestatic 45, 3) := by decide +kernel
theorem dX1_ofTwo_96 : decode cX1_ofTwo 96 = .ok (.invokestatic 51, 3) := by decide +kernel
theorem dX1_ofTwo_99 : decode cX1_ofTwo 99 = .ok (.lreturn, 1) := by decide +kernel
theorem dX1_ofTwo_100 : decode cX1_ofTwo 100 = .ok (.ldc2_w 41, 3) := by decide +kernel
theorem dX1_ofTwo_103 : decode cX1_ofTwo 103 = .ok (.ldc2_w 43, 3) := by decide +kernel
theorem dX1_ofTwo_106 : decode cX1_ofTwo 106 = .ok (.lload_n 1, 1) := by decide +kernel
theorem dX1_ofTwo_107 : decode cX1_ofTwo 107 = .ok (.lload_n 3, 1) := by decide +kernel
theorem dX1_ofTwo_108 : decode cX1_ofTwo 108 = .ok (.lsub, 1) := by decide +kernel
theorem dX1_ofTwo_109 : decode cX1_ofTwo 109 = .ok (.invokestatic 45, 3) := by decide +kernel
theorem dX1_ofTwo_112 : decode cX1_ofTwo 112 = .ok (.invokestatic 51, 3) := by decide +kernel
theorem dX1_ofTwo_115 : decode cX1_ofTwo 115 = .ok (.lreturn, 1) := by decide +kernel
theorem dX1_ofTwo_116 : decode cX1_ofTwo 116 = .ok (.ldc2_w 41, 3) := by decide +kernel
theorem dX1_ofTwo_119 : decode cX1_ofTwo 119 = .ok (.ldc2_w 43, 3) := by decide +kernel
theorem dX1_ofTwo_122 : decode cX1_ofTwo 122 = .ok (.lload_n 1, 1) := by decide +kernel
theorem dX1_ofTwo_123 : decode cX1_ofTwo 123 = .ok (.lload_n 3, 1) := by decide +kernel
theorem dX1_ofTwo_124 : decode cX1_ofTwo 124 = .ok (.lmul, 1) := by decide +kernel
theorem dX1_ofTwo_125 : decode cX1_ofTwo 125 = .ok (.invokestatic 45, 3) := by decide +kernel
theorem dX1_ofTwo_128 : decode cX1_ofTwo 128 = .ok (.invokestatic 51, 3) := by decide +kernel
theorem dX1_ofTwo_131 : decode cX1_ofTwo 131 = .ok (.lreturn, 1) := by decide +kernel
theorem dX1_ofTwo_132 : decode cX1_ofTwo 132 = .ok (.lload_n 3, 1) := by decide +kernel
theorem dX1_ofTwo_133 : decode cX1_ofTwo 133 = .ok (.lconst 0, 1) := by decide +kernel
theorem dX1_ofTwo_134 : decode cX1_ofTwo 134 = .ok (.lcmp, 1) := by decide +kernel
theorem dX1_ofTwo_135 : decode cX1_ofTwo 135 = .ok (.ifCond .ne 7, 3) := by decide +kernel
theorem dX1_ofTwo_138 : decode cX1_ofTwo 138 = .ok (.lconst 0, 1) := by decide +kernel
theorem dX1_ofTwo_139 : decode cX1_ofTwo 139 = .ok (.goto 8, 3) := by decide +kernel
theorem dX1_ofTwo_142 : decode cX1_ofTwo 142 = .ok (.lload_n 1, 1) := by decide +kernel
theorem dX1_ofTwo_143 : decode cX1_ofTwo 143 = .ok (.lload_n 3, 1) := by decide +kernel
theorem dX1_ofTwo_144 : decode cX1_ofTwo 144 = .ok (.invokestatic 54, 3) := by decide +kernel
theorem dX1_ofTwo_147 : decode cX1_ofTwo 147 = .ok (.lreturn, 1) := by decide +kernel
theorem dX1_ofTwo_148 : decode cX1_ofTwo 148 = .ok (.lload_n 1, 1) := by decide +kernel
theorem dX1_ofTwo_149 : decode cX1_ofTwo 149 = .ok (.lload_n 3, 1) := by decide +kernel
theorem dX1_ofTwo_150 : decode cX1_ofTwo 150 = .ok (.lcmp, 1) := by decide +kernel
theorem dX1_ofTwo_151 : decode cX1_ofTwo 151 = .ok (.ifCond .ge 7, 3) := by decide +kernel
theorem dX1_ofTwo_154 : decode cX1_ofTwo 154 = .ok (.lconst 1, 1) := by decide +kernel
theorem dX1_ofTwo_155 : decode cX1_ofTwo 155 = .ok (.goto 4, 3) := by decide +kernel
theorem dX1_ofTwo_158 : decode cX1_ofTwo 158 = .ok (.lconst 0, 1) := by decide +kernel
theorem dX1_ofTwo_159 : decode cX1_ofTwo 159 = .ok (.lreturn, 1) := by decide +kernel
theorem dX1_ofTwo_160 : decode cX1_ofTwo 160 = .ok (.lload_n 1, 1) := by decide +kernel
theorem dX1_ofTwo_161 : decode cX1_ofTwo 161 = .ok (.lload_n 3, 1) := by decide +kernel
theorem dX1_ofTwo_162 : decode cX1_ofTwo 162 = .ok (.lcmp, 1) := by decide +kernel
theorem dX1_ofTwo_163 : decode cX1_ofTwo 163 = .ok (.ifCond .le 7, 3) := by decide +kernel
theorem dX1_ofTwo_166 : decode cX1_ofTwo 166 = .ok (.lconst 1, 1) := by decide +kernel
theorem dX1_ofTwo_167 : decode cX1_ofTwo 167 = .ok (.goto 4, 3) := by decide +kernel
theorem dX1_ofTwo_170 : decode cX1_ofTwo 170 = .ok (.lconst 0, 1) := by decide +kernel
theorem dX1_ofTwo_171 : decode cX1_ofTwo 171 = .ok (.lreturn, 1) := by decide +kernel
theorem dX1_ofTwo_172 : decode cX1_ofTwo 172 = .ok (.lload_n 1, 1) := by decide +kernel
theorem dX1_ofTwo_173 : decode cX1_ofTwo 173 = .ok (.lload_n 3, 1) := by decide +kernel
theorem dX1_ofTwo_174 : decode cX1_ofTwo 174 = .ok (.lcmp, 1) := by decide +kernel
theorem dX1_ofTwo_175 : decode cX1_ofTwo 175 = .ok (.ifCond .ne 7, 3) := by decide +kernel
theorem dX1_ofTwo_178 : decode cX1_ofTwo 178 = .ok (.lconst 1, 1) := by decide +kernel
theorem dX1_ofTwo_179 : decode cX1_ofTwo 179 = .ok (.goto 4, 3) := by decide +kernel
theorem dX1_ofTwo_182 : decode cX1_ofTwo 182 = .ok (.lconst 0, 1) := by decide +kernel
theorem dX1_ofTwo_183 : decode cX1_ofTwo 183 = .ok (.lreturn, 1) := by decide +kernel
theorem dX1_ofTwo_184 : decode cX1_ofTwo 184 = .ok (.lload_n 1, 1) := by decide +kernel
theorem dX1_ofTwo_185 : decode cX1_ofTwo 185 = .ok (.lload_n 3, 1) := by decide +kernel
theorem dX1_ofTwo_186 : decode cX1_ofTwo 186 = .ok (.invokestatic 45, 3) := by decide +kernel
theorem dX1_ofTwo_189 : decode cX1_ofTwo 189 = .ok (.lreturn, 1) := by decide +kernel
theorem dX1_ofTwo_190 : decode cX1_ofTwo 190 = .ok (.lload_n 1, 1) := by decide +kernel
theorem dX1_ofTwo_191 : decode cX1_ofTwo 191 = .ok (.lload_n 3, 1) := by decide +kernel
theorem dX1_ofTwo_192 : decode cX1_ofTwo 192 = .ok (.invokestatic 51, 3) := by decide +kernel
theorem dX1_ofTwo_195 : decode cX1_ofTwo 195 = .ok (.lreturn, 1) := by decide +kernel
theorem dX2_init_0 : decode cX2_init 0 = .ok (.aload_n 0, 1) := by decide +kernel
theorem dX2_init_1 : decode cX2_init 1 = .ok (.invokespecial 3, 3) := by decide +kernel
theorem dX2_init_4 : decode cX2_init 4 = .ok (.aload_n 0, 1) := by decide +kernel
theorem dX2_init_5 : decode cX2_init 5 = .ok (.aload_n 1, 1) := by decide +kernel
theorem dX2_init_6 : decode cX2_init 6 = .ok (.putfield 9, 3) := by decide +kernel
theorem dX2_init_9 : decode cX2_init 9 = .ok (.aload_n 0, 1) := by decide +kernel
theorem dX2_init_10 : decode cX2_init 10 = .ok (.aload_n 2, 1) := by decide +kernel
theorem dX2_init_11 : decode cX2_init 11 = .ok (.putfield 15, 3) := by decide +kernel
theorem dX2_init_14 : decode cX2_init 14 = .ok (.return_, 1) := by decide +kernel
theorem dX2_begin_0 : decode cX2_begin 0 = .ok (.aload_n 0, 1) := by decide +kernel
theorem dX2_begin_1 : decode cX2_begin 1 = .ok (.aload_n 1, 1) := by decide +kernel
theorem dX2_begin_2 : decode cX2_begin 2 = .ok (.putfield 15, 3) := by decide +kernel
theorem dX2_begin_5 : decode cX2_begin 5 = .ok (.aload_n 0, 1) := by decide +kernel
theorem dX2_begin_6 : decode cX2_begin 6 = .ok (.getfield 15, 3) := by decide +kernel
theorem dX2_begin_9 : decode cX2_begin 9 = .ok (.iconst 0, 1) := by decide +kernel
theorem dX2_begin_10 : decode cX2_begin 10 = .ok (.putfield 19, 3) := by decide +kernel
theorem dX2_begin_13 : decode cX2_begin 13 = .ok (.aload_n 0, 1) := by decide +kernel
theorem dX2_begin_14 : decode cX2_begin 14 = .ok (.iload_n 2, 1) := by decide +kernel
theorem dX2_begin_15 : decode cX2_begin 15 = .ok (.putfield 25, 3) := by decide +kernel
theorem dX2_begin_18 : decode cX2_begin 18 = .ok (.return_, 1) := by decide +kernel
theorem dX2_readQuestion_0 : decode cX2_readQuestion 0 = .ok (.aload_n 0, 1) := by decide +kernel
theorem dX2_readQuestion_1 : decode cX2_readQuestion 1 = .ok (.getfield 9, 3) := by decide +kernel
theorem dX2_readQuestion_4 : decode cX2_readQuestion 4 = .ok (.getfield 28, 3) := by decide +kernel
theorem dX2_readQuestion_7 : decode cX2_readQuestion 7 = .ok (.bipush (-2), 2) := by decide +kernel
theorem dX2_readQuestion_9 : decode cX2_readQuestion 9 = .ok (.if_icmp .ne 13, 3) := by decide +kernel
theorem dX2_readQuestion_12 : decode cX2_readQuestion 12 = .ok (.aload_n 0, 1) := by decide +kernel
theorem dX2_readQuestion_13 : decode cX2_readQuestion 13 = .ok (.getfield 9, 3) := by decide +kernel
theorem dX2_readQuestion_16 : decode cX2_readQuestion 16 = .ok (.getfield 33, 3) := by decide +kernel
theorem dX2_readQuestion_19 : decode cX2_readQuestion 19 = .ok (.goto 4, 3) := by decide +kernel
theorem dX2_readQuestion_22 : decode cX2_readQuestion 22 = .ok (.iconst (-1), 1) := by decide +kernel
theorem dX2_readQuestion_23 : decode cX2_readQuestion 23 = .ok (.istore_n 2, 1) := by decide +kernel
theorem dX2_readQuestion_24 : decode cX2_readQuestion 24 = .ok (.iload_n 2, 1) := by decide +kernel
theorem dX2_readQuestion_25 : decode cX2_readQuestion 25 = .ok (.bipush 27, 2) := by decide +kernel
theorem dX2_readQuestion_27 : decode cX2_readQuestion 27 = .ok (.if_icmp .lt 9, 3) := by decide +kernel
theorem dX2_readQuestion_30 : decode cX2_readQuestion 30 = .ok (.iload_n 2, 1) := by decide +kernel
theorem dX2_readQuestion_31 : decode cX2_readQuestion 31 = .ok (.bipush 32, 2) := by decide +kernel
theorem dX2_readQuestion_33 : decode cX2_readQuestion 33 = .ok (.if_icmp .le 21, 3) := by decide +kernel
theorem dX2_readQuestion_36 : decode cX2_readQuestion 36 = .ok (.aload_n 0, 1) := by decide +kernel
theorem dX2_readQuestion_37 : decode cX2_readQuestion 37 = .ok (.getfield 9, 3) := by decide +kernel
theorem dX2_readQuestion_40 : decode cX2_readQuestion 40 = .ok (.iconst 1, 1) := by decide +kernel
theorem dX2_readQuestion_41 : decode cX2_readQuestion 41 = .ok (.aload_n 0, 1) := by decide +kernel
theorem dX2_readQuestion_42 : decode cX2_readQuestion 42 = .ok (.getfield 9, 3) := by decide +kernel
theorem dX2_readQuestion_45 : decode cX2_readQuestion 45 = .ok (.getfield 36, 3) := by decide +kernel
theorem dX2_readQuestion_48 : decode cX2_readQuestion 48 = .ok (.invokevirtual 39, 3) := by decide +kernel
theorem dX2_readQuestion_51 : decode cX2_readQuestion 51 = .ok (.pop, 1) := by decide +kernel
theorem dX2_readQuestion_52 : decode cX2_readQuestion 52 = .ok (.iconst (-1), 1) := by decide +kernel
theorem dX2_readQuestion_53 : decode cX2_readQuestion 53 = .ok (.ireturn, 1) := by decide +kernel
theorem dX2_readQuestion_54 : decode cX2_readQuestion 54 = .ok (.aload_n 0, 1) := by decide +kernel
theorem dX2_readQuestion_55 : decode cX2_readQuestion 55 = .ok (.getfield 9, 3) := by decide +kernel
theorem dX2_readQuestion_58 : decode cX2_readQuestion 58 = .ok (.invokevirtual 43, 3) := by decide +kernel
theorem dX2_readQuestion_61 : decode cX2_readQuestion 61 = .ok (.aload_n 0, 1) := by decide +kernel
theorem dX2_readQuestion_62 : decode cX2_readQuestion 62 = .ok (.aload_n 1, 1) := by decide +kernel
theorem dX2_readQuestion_63 : decode cX2_readQuestion 63 = .ok (.iconst 2, 1) := by decide +kernel
theorem dX2_readQuestion_64 : decode cX2_readQuestion 64 = .ok (.invokevirtual 46, 3) := by decide +kernel
theorem dX2_readQuestion_67 : decode cX2_readQuestion 67 = .ok (.iload_n 2, 1) := by decide +kernel
theorem dX2_readQuestion_68 : decode cX2_readQuestion 68 = .ok (.bipush 29, 2) := by decide +kernel
theorem dX2_readQuestion_70 : decode cX2_readQuestion 70 = .ok (.if_icmp .gt 11, 3) := by decide +kernel
theorem dX2_readQuestion_73 : decode cX2_readQuestion 73 = .ok (.aload_n 0, 1) := by decide +kernel
theorem dX2_readQuestion_74 : decode cX2_readQuestion 74 = .ok (.iconst 0, 1) := by decide +kernel
theorem dX2_readQuestion_75 : decode cX2_readQuestion 75 = .ok (.invokevirtual 50, 3) := by decide +kernel
theorem dX2_readQuestion_78 : decode cX2_readQuestion 78 = .ok (.goto 8, 3) := by decide +kernel
theorem dX2_readQuestion_81 : decode cX2_readQuestion 81 = .ok (.aload_n 0, 1) := by decide +kernel
theorem dX2_readQuestion_82 : decode cX2_readQuestion 82 = .ok (.iconst 0, 1) := by decide +kernel
theorem dX2_readQuestion_83 : decode cX2_readQuestion 83 = .ok (.invokevirtual 54, 3) := by decide +kernel
theorem dX2_readQuestion_86 : decode cX2_readQuestion 86 = .ok (.istore_n 3, 1) := by decide +kernel
theorem dX2_readQuestion_87 : decode cX2_readQuestion 87 = .ok (.iload_n 3, 1) := by decide +kernel
theorem dX2_readQuestion_88 : decode cX2_readQuestion 88 = .ok (.ifCond .eq 18, 3) := by decide +kernel
theorem dX2_readQuestion_91 : decode cX2_readQuestion 91 = .ok (.aload_n 0, 1) := by decide +kernel
theorem dX2_readQuestion_92 : decode cX2_readQuestion 92 = .ok (.getfield 9, 3) := by decide +kernel
theorem dX2_readQuestion_95 : decode cX2_readQuestion 95 = .ok (.iconst (-1), 1) := by decide +kernel
theorem dX2_readQuestion_96 : decode cX2_readQuestion 96 = .ok (.invokevirtual 57, 3) := by decide +kernel
theorem dX2_readQuestion_99 : decode cX2_readQuestion 99 = .ok (.ifCond .eq 7, 3) := by decide +kernel
theorem dX2_readQuestion_102 : decode cX2_readQuestion 102 = .ok (.iload_n 2, 1) := by decide +kernel
theorem dX2_readQuestion_103 : decode cX2_readQuestion 103 = .ok (.goto 4, 3) := by decide +kernel
theorem dX2_readQuestion_106 : decode cX2_readQuestion 106 = .ok (.iconst (-1), 1) := by decide +kernel
theorem dX2_readQuestion_107 : decode cX2_readQuestion 107 = .ok (.ireturn, 1) := by decide +kernel
theorem dX2_test_0 : decode cX2_test 0 = .ok (.aload_n 0, 1) := by decide +kernel
theorem dX2_test_1 : decode cX2_test 1 = .ok (.iload_n 1, 1) := by decide +kernel
theorem dX2_test_2 : decode cX2_test 2 = .ok (.invokevirtual 60, 3) := by decide +kernel
theorem dX2_test_5 : decode cX2_test 5 = .ok (.istore_n 2, 1) := by decide +kernel
theorem dX2_test_6 : decode cX2_test 6 = .ok (.iconst 0, 1) := by decide +kernel
theorem dX2_test_7 : decode cX2_test 7 = .ok (.istore_n 3, 1) := by decide +kernel
theorem dX2_test_8 : decode cX2_test 8 = .ok (.iload_n 3, 1) := by decide +kernel
theorem dX2_test_9 : decode cX2_test 9 = .ok (.sipush 1600, 3) := by decide +kernel
theorem dX2_test_12 : decode cX2_test 12 = .ok (.if_icmp .ge 47, 3) := by decide +kernel
theorem dX2_test_15 : decode cX2_test 15 = .ok (.iload_n 2, 1) := by decide +kernel
theorem dX2_test_16 : decode cX2_test 16 = .ok (.ifCond .eq 43, 3) := by decide +kernel
theorem dX2_test_19 : decode cX2_test 19 = .ok (.aload_n 0, 1) := by decide +kernel
theorem dX2_test_20 : decode cX2_test 20 = .ok (.getfield 9, 3) := by decide +kernel
theorem dX2_test_23 : decode cX2_test 23 = .ok (.bipush 21, 2) := by decide +kernel
theorem dX2_test_25 : decode cX2_test 25 = .ok (.invokevirtual 63, 3) := by decide +kernel
theorem dX2_test_28 : decode cX2_test 28 = .ok (.ifCond .eq 31, 3) := by decide +kernel
theorem dX2_test_31 : decode cX2_test 31 = .ok (.aload_n 0, 1) := by decide +kernel
theorem dX2_test_32 : decode cX2_test 32 = .ok (.getfield 9, 3) := by decide +kernel
theorem dX2_test_35 : decode cX2_test 35 = .ok (.invokevirtual 43, 3) := by decide +kernel
theorem dX2_test_38 : decode cX2_test 38 = .ok (.aload_n 0, 1) := by decide +kernel
theorem dX2_test_39 : decode cX2_test 39 = .ok (.iload_n 1, 1) := by decide +kernel
theorem dX2_test_40 : decode cX2_test 40 = .ok (.invokevirtual 60, 3) := by decide +kernel
theorem dX2_test_43 : decode cX2_test 43 = .ok (.istore_n 2, 1) := by decide +kernel
theorem dX2_test_44 : decode cX2_test 44 = .ok (.aload_n 0, 1) := by decide +kernel
theorem dX2_test_45 : decode cX2_test 45 = .ok (.getfield 15, 3) := by decide +kernel
theorem dX2_test_48 : decode cX2_test 48 = .ok (.bipush 21, 2) := by decide +kernel
theorem dX2_test_50 : decode cX2_test 50 = .ok (.invokevirtual 66, 3) := by decide +kernel
theorem dX2_test_53 : decode cX2_test 53 = .ok (.iinc 3 1, 3) := by decide +kernel
theorem dX2_test_56 : decode cX2_test 56 = .ok (.goto (-48), 3) := by decide +kernel
theorem dX2_test_59 : decode cX2_test 59 = .ok (.iload_n 2, 1) := by decide +kernel
theorem dX2_test_60 : decode cX2_test 60 = .ok (.ireturn, 1) := by decide +kernel
theorem dX2_both_0 : decode cX2_both 0 = .ok (.aload_n 0, 1) := by decide +kernel
theorem dX2_both_1 : decode cX2_both 1 = .ok (.iload_n 1, 1) := by decide +kernel
theorem dX2_both_2 : decode cX2_both 2 = .ok (.invokevirtual 70, 3) := by decide +kernel
theorem dX2_both_5 : decode cX2_both 5 = .ok (.istore_n 2, 1) := by decide +kernel
theorem dX2_both_6 : decode cX2_both 6 = .ok (.iconst 0, 1) := by decide +kernel
theorem dX2_both_7 : decode cX2_both 7 = .ok (.istore_n 3, 1) := by decide +kernel
theorem dX2_both_8 : decode cX2_both 8 = .ok (.iload_n 3, 1) := by decide +kernel
theorem dX2_both_9 : decode cX2_both 9 = .ok (.sipush 1600, 3) := by decide +kernel
theorem dX2_both_12 : decode cX2_both 12 = .ok (.if_icmp .ge 47, 3) := by decide +kernel
theorem dX2_both_15 : decode cX2_both 15 = .ok (.iload_n 2, 1) := by decide +kernel
theorem dX2_both_16 : decode cX2_both 16 = .ok (.ifCond .eq 43, 3) := by decide +kernel
theorem dX2_both_19 : decode cX2_both 19 = .ok (.aload_n 0, 1) := by decide +kernel
theorem dX2_both_20 : decode cX2_both 20 = .ok (.getfield 9, 3) := by decide +kernel
theorem dX2_both_23 : decode cX2_both 23 = .ok (.bipush 22, 2) := by decide +kernel
theorem dX2_both_25 : decode cX2_both 25 = .ok (.invokevirtual 63, 3) := by decide +kernel
theorem dX2_both_28 : decode cX2_both 28 = .ok (.ifCond .eq 31, 3) := by decide +kernel
theorem dX2_both_31 : decode cX2_both 31 = .ok (.aload_n 0, 1) := by decide +kernel
theorem dX2_both_32 : decode cX2_both 32 = .ok (.getfield 9, 3) := by decide +kernel
theorem dX2_both_35 : decode cX2_both 35 = .ok (.invokevirtual 43, 3) := by decide +kernel
theorem dX2_both_38 : decode cX2_both 38 = .ok (.aload_n 0, 1) := by decide +kernel
theorem dX2_both_39 : decode cX2_both 39 = .ok (.iload_n 1, 1) := by decide +kernel
theorem dX2_both_40 : decode cX2_both 40 = .ok (.invokevirtual 70, 3) := by decide +kernel
theorem dX2_both_43 : decode cX2_both 43 = .ok (.istore_n 2, 1) := by decide +kernel
theorem dX2_both_44 : decode cX2_both 44 = .ok (.aload_n 0, 1) := by decide +kernel
theorem dX2_both_45 : decode cX2_both 45 = .ok (.getfield 15, 3) := by decide +kernel
theorem dX2_both_48 : decode cX2_both 48 = .ok (.bipush 22, 2) := by decide +kernel
theorem dX2_both_50 : decode cX2_both 50 = .ok (.invokevirtual 66, 3) := by decide +kernel
theorem dX2_both_53 : decode cX2_both 53 = .ok (.iinc 3 1, 3) := by decide +kernel
theorem dX2_both_56 : decode cX2_both 56 = .ok (.goto (-48), 3) := by decide +kernel
theorem dX2_both_59 : decode cX2_both 59 = .ok (.iload_n 2, 1) := by decide +kernel
theorem dX2_both_60 : decode cX2_both 60 = .ok (.ireturn, 1) := by decide +kernel
theorem dX2_fact_0 : decode cX2_fact 0 = .ok (.aload_n 0, 1) := by decide +kernel
theorem dX2_fact_1 : decode cX2_fact 1 = .ok (.getfield 9, 3) := by decide +kernel
theorem dX2_fact_4 : decode cX2_fact 4 = .ok (.bipush 23, 2) := by decide +kernel
theorem dX2_fact_6 : decode cX2_fact 6 = .ok (.invokevirtual 63, 3) := by decide +kernel
theorem dX2_fact_9 : decode cX2_fact 9 = .ok (.ifCond .eq 38, 3) := by decide +kernel
theorem dX2_fact_12 : decode cX2_fact 12 = .ok (.aload_n 0, 1) := by decide +kernel
theorem dX2_fact_13 : decode cX2_fact 13 = .ok (.iload_n 1, 1) := by decide +kernel
theorem dX2_fact_14 : decode cX2_fact 14 = .ok (.invokevirtual 73, 3) := by decide +kernel
theorem dX2_fact_17 : decode cX2_fact 17 = .ok (.ifCond .eq 17, 3) := by decide +kernel
theorem dX2_fact_20 : decode cX2_fact 20 = .ok (.aload_n 0, 1) := by decide +kernel
theorem dX2_fact_21 : decode cX2_fact 21 = .ok (.iload_n 1, 1) := by decide +kernel
theorem dX2_fact_22 : decode cX2_fact 22 = .ok (.iconst 1, 1) := by decide +kernel
theorem dX2_fact_23 : decode cX2_fact 23 = .ok (.iadd, 1) := by decide +kernel
theorem dX2_fact_24 : decode cX2_fact 24 = .ok (.invokevirtual 70, 3) := by decide +kernel
theorem dX2_fact_27 : decode cX2_fact 27 = .ok (.ifCond .eq 7, 3) := by decide +kernel
theorem dX2_fact_30 : decode cX2_fact 30 = .ok (.iconst 1, 1) := by decide +kernel
theorem dX2_fact_31 : decode cX2_fact 31 = .ok (.goto 4, 3) := by decide +kernel
theorem dX2_fact_34 : decode cX2_fact 34 = .ok (.iconst 0, 1) := by decide +kernel
theorem dX2_fact_35 : decode cX2_fact 35 = .ok (.istore_n 2, 1) := by decide +kernel
theorem dX2_fact_36 : decode cX2_fact 36 = .ok (.aload_n 0, 1) := by decide +kernel
theorem dX2_fact_37 : decode cX2_fact 37 = .ok (.getfield 15, 3) := by decide +kernel
theorem dX2_fact_40 : decode cX2_fact 40 = .ok (.bipush 23, 2) := by decide +kernel
theorem dX2_fact_42 : decode cX2_fact 42 = .ok (.invokevirtual 66, 3) := by decide +kernel
theorem dX2_fact_45 : decode cX2_fact 45 = .ok (.iload_n 2, 1) := by decide +kernel
theorem dX2_fact_46 : decode cX2_fact 46 = .ok (.ireturn, 1) := by decide +kernel
theorem dX2_fact_47 : decode cX2_fact 47 = .ok (.aload_n 0, 1) := by decide +kernel
theorem dX2_fact_48 : decode cX2_fact 48 = .ok (.getfield 9, 3) := by decide +kernel
theorem dX2_fact_51 : decode cX2_fact 51 = .ok (.getfield 28, 3) := by decide +kernel
theorem dX2_fact_54 : decode cX2_fact 54 = .ok (.bipush 91, 2) := by decide +kernel
theorem dX2_fact_56 : decode cX2_fact 56 = .ok (.if_icmp .ne 39, 3) := by decide +kernel
theorem dX2_fact_59 : decode cX2_fact 59 = .ok (.aload_n 0, 1) := by decide +kernel
theorem dX2_fact_60 : decode cX2_fact 60 = .ok (.iload_n 1, 1) := by decide +kernel
theorem dX2_fact_61 : decode cX2_fact 61 = .ok (.invokevirtual 73, 3) := by decide +kernel
theorem dX2_fact_64 : decode cX2_fact 64 = .ok (.ifCond .eq 29, 3) := by decide +kernel
theorem dX2_fact_67 : decode cX2_fact 67 = .ok (.aload_n 0, 1) := by decide +kernel
theorem dX2_fact_68 : decode cX2_fact 68 = .ok (.iload_n 1, 1) := by decide +kernel
theorem dX2_fact_69 : decode cX2_fact 69 = .ok (.iconst 1, 1) := by decide +kernel
theorem dX2_fact_70 : decode cX2_fact 70 = .ok (.iadd, 1) := by decide +kernel
theorem dX2_fact_71 : decode cX2_fact 71 = .ok (.invokevirtual 50, 3) := by decide +kernel
theorem dX2_fact_74 : decode cX2_fact 74 = .ok (.ifCond .eq 19, 3) := by decide +kernel
theorem dX2_fact_77 : decode cX2_fact 77 = .ok (.aload_n 0, 1) := by decide +kernel
theorem dX2_fact_78 : decode cX2_fact 78 = .ok (.getfield 9, 3) := by decide +kernel
theorem dX2_fact_81 : decode cX2_fact 81 = .ok (.bipush 93, 2) := by decide +kernel
theorem dX2_fact_83 : decode cX2_fact 83 = .ok (.invokevirtual 57, 3) := by decide +kernel
theorem dX2_fact_86 : decode cX2_fact 86 = .ok (.ifCond .eq 7, 3) := by decide +kernel
theorem dX2_fact_89 : decode cX2_fact 89 = .ok (.iconst 1, 1) := by decide +kernel
theorem dX2_fact_90 : decode cX2_fact 90 = .ok (.goto 4, 3) := by decide +kernel
theorem dX2_fact_93 : decode cX2_fact 93 = .ok (.iconst 0, 1) := by decide +kernel
theorem dX2_fact_94 : decode cX2_fact 94 = .ok (.ireturn, 1) := by decide +kernel
theorem dX2_fact_95 : decode cX2_fact 95 = .ok (.aload_n 0, 1) := by decide +kernel
theorem dX2_fact_96 : decode cX2_fact 96 = .ok (.getfield 9, 3) := by decide +kernel
theorem dX2_fact_99 : decode cX2_fact 99 = .ok (.bipush 24, 2) := by decide +kernel
theorem dX2_fact_101 : decode cX2_fact 101 = .ok (.invokevirtual 63, 3) := by decide +kernel
theorem dX2_fact_104 : decode cX2_fact 104 = .ok (.ifCond .eq 20, 3) := by decide +kernel
theorem dX2_fact_107 : decode cX2_fact 107 = .ok (.aload_n 0, 1) := by decide +kernel
theorem dX2_fact_108 : decode cX2_fact 108 = .ok (.getfield 9, 3) := by decide +kernel
theorem dX2_fact_111 : decode cX2_fact 111 = .ok (.invokevirtual 43, 3) := by decide +kernel
theorem dX2_fact_114 : decode cX2_fact 114 = .ok (.aload_n 0, 1) := by decide +kernel
theorem dX2_fact_115 : decode cX2_fact 115 = .ok (.getfield 15, 3) := by decide +kernel
theorem dX2_fact_118 : decode cX2_fact 118 = .ok (.iconst 1, 1) := by decide +kernel
theorem dX2_fact_119 : decode cX2_fact 119 = .ok (.invokevirtual 76, 3) := by decide +kernel
theorem dX2_fact_122 : decode cX2_fact 122 = .ok (.iconst 1, 1) := by decide +kernel
theorem dX2_fact_123 : decode cX2_fact 123 = .ok (.ireturn, 1) := by decide +kernel
theorem dX2_fact_124 : decode cX2_fact 124 = .ok (.aload_n 0, 1) := by decide +kernel
theorem dX2_fact_125 : decode cX2_fact 125 = .ok (.iload_n 1, 1) := by decide +kernel
theorem dX2_fact_126 : decode cX2_fact 126 = .ok (.invokevirtual 54, 3) := by decide +kernel
theorem dX2_fact_129 : decode cX2_fact 129 = .ok (.ifCond .ne 5, 3) := by decide +kernel
theorem dX2_fact_132 : decode cX2_fact 132 = .ok (.iconst 0, 1) := by decide +kernel
theorem dX2_fact_133 : decode cX2_fact 133 = .ok (.ireturn, 1) := by decide +kernel
theorem dX2_fact_134 : decode cX2_fact 134 = .ok (.aload_n 0, 1) := by decide +kernel
theorem dX2_fact_135 : decode cX2_fact 135 = .ok (.getfield 9, 3) := by decide +kernel
theorem dX2_fact_138 : decode cX2_fact 138 = .ok (.getfield 28, 3) := by decide +kernel
theorem dX2_fact_141 : decode cX2_fact 141 = .ok (.istore_n 2, 1) := by decide +kernel
theorem dX2_fact_142 : decode cX2_fact 142 = .ok (.iload_n 2, 1) := by decide +kernel
theorem dX2_fact_143 : decode cX2_fact 143 = .ok (.bipush 60, 2) := by decide +kernel
theorem dX2_fact_145 : decode cX2_fact 145 = .ok (.if_icmp .eq 31, 3) := by decide +kernel
theorem dX2_fact_148 : decode cX2_fact 148 = .ok (.iload_n 2, 1) := by decide +kernel
theorem dX2_fact_149 : decode cX2_fact 149 = .ok (.bipush 62, 2) := by decide +kernel
theorem dX2_fact_151 : decode cX2_fact 151 = .ok (.if_icmp .eq 25, 3) := by decide +kernel
theorem dX2_fact_154 : decode cX2_fact 154 = .ok (.iload_n 2, 1) := by decide +kernel
theorem dX2_fact_155 : decode cX2_fact 155 = .ok (.bipush 61, 2) := by decide +kernel
theorem dX2_fact_157 : decode cX2_fact 157 = .ok (.if_icmp .eq 19, 3) := by decide +kernel
theorem dX2_fact_160 : decode cX2_fact 160 = .ok (.aload_n 0, 1) := by decide +kernel
theorem dX2_fact_161 : decode cX2_fact 161 = .ok (.getfield 9, 3) := by decide +kernel
theorem dX2_fact_164 : decode cX2_fact 164 = .ok (.iconst 1, 1) := by decide +kernel
theorem dX2_fact_165 : decode cX2_fact 165 = .ok (.aload_n 0, 1) := by decide +kernel
theorem dX2_fact_166 : decode cX2_fact 166 = .ok (.getfield 9, 3) := by decide +kernel
theorem dX2_fact_169 : decode cX2_fact 169 = .ok (.getfield 36, 3) := by decide +kernel
theorem dX2_fact_172 : decode cX2_fact 172 = .ok (.invokevirtual 39, 3) := by decide +kernel
theorem dX2_fact_175 : decode cX2_fact 175 = .ok (.ireturn, 1) := by decide +kernel
theorem dX2_fact_176 : decode cX2_fact 176 = .ok (.aload_n 0, 1) := by decide +kernel
theorem dX2_fact_177 : decode cX2_fact 177 = .ok (.getfield 9, 3) := by decide +kernel
theorem dX2_fact_180 : decode cX2_fact 180 = .ok (.invokevirtual 43, 3) := by decide +kernel
theorem dX2_fact_183 : decode cX2_fact 183 = .ok (.aload_n 0, 1) := by decide +kernel
theorem dX2_fact_184 : decode cX2_fact 184 = .ok (.iload_n 1, 1) := by decide +kernel
theorem dX2_fact_185 : decode cX2_fact 185 = .ok (.invokevirtual 54, 3) := by decide +kernel
theorem dX2_fact_188 : decode cX2_fact 188 = .ok (.istore_n 3, 1) := by decide +kernel
theorem dX2_fact_189 : decode cX2_fact 189 = .ok (.aload_n 0, 1) := by decide +kernel
theorem dX2_fact_190 : decode cX2_fact 190 = .ok (.getfield 15, 3) := by decide +kernel
theorem dX2_fact_193 : decode cX2_fact 193 = .ok (.iload_n 2, 1) := by decide +kernel
theorem dX2_fact_194 : decode cX2_fact 194 = .ok (.invokevirtual 79, 3) := by decide +kernel
theorem dX2_fact_197 : decode cX2_fact 197 = .ok (.iload_n 3, 1) := by decide +kernel
theorem dX2_fact_198 : decode cX2_fact 198 = .ok (.ireturn, 1) := by decide +kernel
theorem dX2_opens_0 : decode cX2_opens 0 = .ok (.iload_n 1, 1) := by decide +kernel
theorem dX2_opens_1 : decode cX2_opens 1 = .ok (.bipush 6, 2) := by decide +kernel
theorem dX2_opens_3 : decode cX2_opens 3 = .ok (.if_icmp .lt 19, 3) := by decide +kernel
theorem dX2_opens_6 : decode cX2_opens 6 = .ok (.aload_n 0, 1) := by decide +kernel
theorem dX2_opens_7 : decode cX2_opens 7 = .ok (.getfield 9, 3) := by decide +kernel
theorem dX2_opens_10 : decode cX2_opens 10 = .ok (.iconst 4, 1) := by decide +kernel
theorem dX2_opens_11 : decode cX2_opens 11 = .ok (.aload_n 0, 1) := by decide +kernel
theorem dX2_opens_12 : decode cX2_opens 12 = .ok (.getfield 9, 3) := by decide +kernel
theorem dX2_opens_15 : decode cX2_opens 15 = .ok (.getfield 36, 3) := by decide +kernel
theorem dX2_opens_18 : decode cX2_opens 18 = .ok (.invokevirtual 39, 3) := by decide +kernel
theorem dX2_opens_21 : decode cX2_opens 21 = .ok (.ireturn, 1) := by decide +kernel
theorem dX2_opens_22 : decode cX2_opens 22 = .ok (.aload_n 0, 1) := by decide +kernel
theorem dX2_opens_23 : decode cX2_opens 23 = .ok (.getfield 9, 3) := by decide +kernel
theorem dX2_opens_26 : decode cX2_opens 26 = .ok (.invokevirtual 43, 3) := by decide +kernel
theorem dX2_opens_29 : decode cX2_opens 29 = .ok (.iconst 1, 1) := by decide +kernel
theorem dX2_opens_30 : decode cX2_opens 30 = .ok (.ireturn, 1) := by decide +kernel
theorem dX2_sum_0 : decode cX2_sum 0 = .ok (.aload_n 0, 1) := by decide +kernel
theorem dX2_sum_1 : decode cX2_sum 1 = .ok (.iload_n 1, 1) := by decide +kernel
theorem dX2_sum_2 : decode cX2_sum 2 = .ok (.invokevirtual 82, 3) := by decide +kernel
theorem dX2_sum_5 : decode cX2_sum 5 = .ok (.istore_n 2, 1) := by decide +kernel
theorem dX2_sum_6 : decode cX2_sum 6 = .ok (.iconst 0, 1) := by decide +kernel
theorem dX2_sum_7 : decode cX2_sum 7 = .ok (.istore_n 3, 1) := by decide +kernel
theorem dX2_sum_8 : decode cX2_sum 8 = .ok (.iload_n 3, 1) := by decide +kernel
theorem dX2_sum_9 : decode cX2_sum 9 = .ok (.sipush 1600, 3) := by decide +kernel
theorem dX2_sum_12 : decode cX2_sum 12 = .ok (.if_icmp .ge 68, 3) := by decide +kernel
theorem dX2_sum_15 : decode cX2_sum 15 = .ok (.iload_n 2, 1) := by decide +kernel
theorem dX2_sum_16 : decode cX2_sum 16 = .ok (.ifCond .eq 64, 3) := by decide +kernel
theorem dX2_sum_19 : decode cX2_sum 19 = .ok (.aload_n 0, 1) := by decide +kernel
theorem dX2_sum_20 : decode cX2_sum 20 = .ok (.getfield 9, 3) := by decide +kernel
theorem dX2_sum_23 : decode cX2_sum 23 = .ok (.getfield 28, 3) := by decide +kernel
theorem dX2_sum_26 : decode cX2_sum 26 = .ok (.bipush 43, 2) := by decide +kernel
theorem dX2_sum_28 : decode cX2_sum 28 = .ok (.if_icmp .eq 15, 3) := by decide +kernel
theorem dX2_sum_31 : decode cX2_sum 31 = .ok (.aload_n 0, 1) := by decide +kernel
theorem dX2_sum_32 : decode cX2_sum 32 = .ok (.getfield 9, 3) := by decide +kernel
theorem dX2_sum_35 : decode cX2_sum 35 = .ok (.getfield 28, 3) := by decide +kernel
theorem dX2_sum_38 : decode cX2_sum 38 = .ok (.bipush 45, 2) := by decide +kernel
theorem dX2_sum_40 : decode cX2_sum 40 = .ok (.if_icmp .ne 40, 3) := by decide +kernel
theorem dX2_sum_43 : decode cX2_sum 43 = .ok (.aload_n 0, 1) := by decide +kernel
theorem dX2_sum_44 : decode cX2_sum 44 = .ok (.getfield 9, 3) := by decide +kernel
theorem dX2_sum_47 : decode cX2_sum 47 = .ok (.getfield 28, 3) := by decide +kernel
theorem dX2_sum_50 : decode cX2_sum 50 = .ok (.istore 4, 2) := by decide +kernel
theorem dX2_sum_52 : decode cX2_sum 52 = .ok (.aload_n 0, 1) := by decide +kernel
theorem dX2_sum_53 : decode cX2_sum 53 = .ok (.getfield 9, 3) := by decide +kernel
theorem dX2_sum_56 : decode cX2_sum 56 = .ok (.invokevirtual 43, 3) := by decide +kernel
theorem dX2_sum_59 : decode cX2_sum 59 = .ok (.aload_n 0, 1) := by decide +kernel
theorem dX2_sum_60 : decode cX2_sum 60 = .ok (.iload_n 1, 1) := by decide +kernel
theorem dX2_sum_61 : decode cX2_sum 61 = .ok (.invokevirtual 82, 3) := by decide +kernel
theorem dX2_sum_64 : decode cX2_sum 64 = .ok (.istore_n 2, 1) := by decide +kernel
theorem dX2_sum_65 : decode cX2_sum 65 = .ok (.aload_n 0, 1) := by decide +kernel
theorem dX2_sum_66 : decode cX2_sum 66 = .ok (.getfield 15, 3) := by decide +kernel
theorem dX2_sum_69 : decode cX2_sum 69 = .ok (.iload 4, 2) := by decide +kernel
theorem dX2_sum_71 : decode cX2_sum 71 = .ok (.invokevirtual 79, 3) := by decide +kernel
theorem dX2_sum_74 : decode cX2_sum 74 = .ok (.iinc 3 1, 3) := by decide +kernel
theorem dX2_sum_77 : decode cX2_sum 77 = .ok (.goto (-69), 3) := by decide +kernel
theorem dX2_sum_80 : decode cX2_sum 80 = .ok (.iload_n 2, 1) := by decide +kernel
theorem dX2_sum_81 : decode cX2_sum 81 = .ok (.ireturn, 1) := by decide +kernel
theorem dX2_product_0 : decode cX2_product 0 = .ok (.aload_n 0, 1) := by decide +kernel
theorem dX2_product_1 : decode cX2_product 1 = .ok (.iload_n 1, 1) := by decide +kernel
theorem dX2_product_2 : decode cX2_product 2 = .ok (.invokevirtual 85, 3) := by decide +kernel
theorem dX2_product_5 : decode cX2_product 5 = .ok (.istore_n 2, 1) := by decide +kernel
theorem dX2_product_6 : decode cX2_product 6 = .ok (.iconst 0, 1) := by decide +kernel
theorem dX2_product_7 : decode cX2_product 7 = .ok (.istore_n 3, 1) := by decide +kernel
theorem dX2_product_8 : decode cX2_product 8 = .ok (.iload_n 3, 1) := by decide +kernel
theorem dX2_product_9 : decode cX2_product 9 = .ok (.sipush 1600, 3) := by decide +kernel
theorem dX2_product_12 : decode cX2_product 12 = .ok (.if_icmp .ge 68, 3) := by decide +kernel
theorem dX2_product_15 : decode cX2_product 15 = .ok (.iload_n 2, 1) := by decide +kernel
theorem dX2_product_16 : decode cX2_product 16 = .ok (.ifCond .eq 64, 3) := by decide +kernel
theorem dX2_product_19 : decode cX2_product 19 = .ok (.aload_n 0, 1) := by decide +kernel
theorem dX2_product_20 : decode cX2_product 20 = .ok (.getfield 9, 3) := by decide +kernel
theorem dX2_product_23 : decode cX2_product 23 = .ok (.getfield 28, 3) := by decide +kernel
theorem dX2_product_26 : decode cX2_product 26 = .ok (.bipush 42, 2) := by decide +kernel
theorem dX2_product_28 : decode cX2_product 28 = .ok (.if_icmp .eq 15, 3) := by decide +kernel
theorem dX2_product_31 : decode cX2_product 31 = .ok (.aload_n 0, 1) := by decide +kernel
theorem dX2_product_32 : decode cX2_product 32 = .ok (.getfield 9, 3) := by decide +kernel
theorem dX2_product_35 : decode cX2_product 35 = .ok (.getfield 28, 3) := by decide +kernel
theorem dX2_product_38 : decode cX2_product 38 = .ok (.bipush 47, 2) := by decide +kernel
theorem dX2_product_40 : decode cX2_product 40 = .ok (.if_icmp .ne 40, 3) := by decide +kernel
theorem dX2_product_43 : decode cX2_product 43 = .ok (.aload_n 0, 1) := by decide +kernel
theorem dX2_product_44 : decode cX2_product 44 = .ok (.getfield 9, 3) := by decide +kernel
theorem dX2_product_47 : decode cX2_product 47 = .ok (.getfield 28, 3) := by decide +kernel
theorem dX2_product_50 : decode cX2_product 50 = .ok (.istore 4, 2) := by decide +kernel
theorem dX2_product_52 : decode cX2_product 52 = .ok (.aload_n 0, 1) := by decide +kernel
theorem dX2_product_53 : decode cX2_product 53 = .ok (.getfield 9, 3) := by decide +kernel
theorem dX2_product_56 : decode cX2_product 56 = .ok (.invokevirtual 43, 3) := by decide +kernel
theorem dX2_product_59 : decode cX2_product 59 = .ok (.aload_n 0, 1) := by decide +kernel
theorem dX2_product_60 : decode cX2_product 60 = .ok (.iload_n 1, 1) := by decide +kernel
theorem dX2_product_61 : decode cX2_product 61 = .ok (.invokevirtual 85, 3) := by decide +kernel
theorem dX2_product_64 : decode cX2_product 64 = .ok (.istore_n 2, 1) := by decide +kernel
theorem dX2_product_65 : decode cX2_product 65 = .ok (.aload_n 0, 1) := by decide +kernel
theorem dX2_product_66 : decode cX2_product 66 = .ok (.getfield 15, 3) := by decide +kernel
theorem dX2_product_69 : decode cX2_product 69 = .ok (.iload 4, 2) := by decide +kernel
theorem dX2_product_71 : decode cX2_product 71 = .ok (.invokevirtual 79, 3) := by decide +kernel
theorem dX2_product_74 : decode cX2_product 74 = .ok (.iinc 3 1, 3) := by decide +kernel
theorem dX2_product_77 : decode cX2_product 77 = .ok (.goto (-69), 3) := by decide +kernel
theorem dX2_product_80 : decode cX2_product 80 = .ok (.iload_n 2, 1) := by decide +kernel
theorem dX2_product_81 : decode cX2_product 81 = .ok (.ireturn, 1) := by decide +kernel
theorem dX2_part_0 : decode cX2_part 0 = .ok (.aload_n 0, 1) := by decide +kernel
theorem dX2_part_1 : decode cX2_part 1 = .ok (.getfield 9, 3) := by decide +kernel
theorem dX2_part_4 : decode cX2_part 4 = .ok (.getfield 28, 3) := by decide +kernel
theorem dX2_part_7 : decode cX2_part 7 = .ok (.bipush 40, 2) := by decide +kernel
theorem dX2_part_9 : decode cX2_part 9 = .ok (.if_icmp .ne 39, 3) := by decide +kernel
theorem dX2_part_12 : decode cX2_part 12 = .ok (.aload_n 0, 1) := by decide +kernel
theorem dX2_part_13 : decode cX2_part 13 = .ok (.iload_n 1, 1) := by decide +kernel
theorem dX2_part_14 : decode cX2_part 14 = .ok (.invokevirtual 73, 3) := by decide +kernel
theorem dX2_part_17 : decode cX2_part 17 = .ok (.ifCond .eq 29, 3) := by decide +kernel
theorem dX2_part_20 : decode cX2_part 20 = .ok (.aload_n 0, 1) := by decide +kernel
theorem dX2_part_21 : decode cX2_part 21 = .ok (.iload_n 1, 1) := by decide +kernel
theorem dX2_part_22 : decode cX2_part 22 = .ok (.iconst 1, 1) := by decide +kernel
theorem dX2_part_23 : decode cX2_part 23 = .ok (.iadd, 1) := by decide +kernel
theorem dX2_part_24 : decode cX2_part 24 = .ok (.invokevirtual 54, 3) := by decide +kernel
theorem dX2_part_27 : decode cX2_part 27 = .ok (.ifCond .eq 19, 3) := by decide +kernel
theorem dX2_part_30 : decode cX2_part 30 = .ok (.aload_n 0, 1) := by decide +kernel
theorem dX2_part_31 : decode cX2_part 31 = .ok (.getfield 9, 3) := by decide +kernel
theorem dX2_part_34 : decode cX2_part 34 = .ok (.bipush 41, 2) := by decide +kernel
theorem dX2_part_36 : decode cX2_part 36 = .ok (.invokevirtual 57, 3) := by decide +kernel
theorem dX2_part_39 : decode cX2_part 39 = .ok (.ifCond .eq 7, 3) := by decide +kernel
theorem dX2_part_42 : decode cX2_part 42 = .ok (.iconst 1, 1) := by decide +kernel
theorem dX2_part_43 : decode cX2_part 43 = .ok (.goto 4, 3) := by decide +kernel
theorem dX2_part_46 : decode cX2_part 46 = .ok (.iconst 0, 1) := by decide +kernel
theorem dX2_part_47 : decode cX2_part 47 = .ok (.ireturn, 1) := by decide +kernel
theorem dX2_part_48 : decode cX2_part 48 = .ok (.aload_n 0, 1) := by decide +kernel
theorem dX2_part_49 : decode cX2_part 49 = .ok (.getfield 9, 3) := by decide +kernel
theorem dX2_part_52 : decode cX2_part 52 = .ok (.getfield 28, 3) := by decide +kernel
theorem dX2_part_55 : decode cX2_part 55 = .ok (.bipush (-2), 2) := by decide +kernel
theorem dX2_part_57 : decode cX2_part 57 = .ok (.if_icmp .eq 39, 3) := by decide +kernel
theorem dX2_part_60 : decode cX2_part 60 = .ok (.aload_n 0, 1) := by decide +kernel
theorem dX2_part_61 : decode cX2_part 61 = .ok (.getfield 9, 3) := by decide +kernel
theorem dX2_part_64 : decode cX2_part 64 = .ok (.iconst 0, 1) := by decide +kernel
theorem dX2_part_65 : decode cX2_part 65 = .ok (.sipush 9999, 3) := by decide +kernel
theorem dX2_part_68 : decode cX2_part 68 = .ok (.invokevirtual 88, 3) := by decide +kernel
theorem dX2_part_71 : decode cX2_part 71 = .ok (.istore_n 2, 1) := by decide +kernel
theorem dX2_part_72 : decode cX2_part 72 = .ok (.iload_n 2, 1) := by decide +kernel
theorem dX2_part_73 : decode cX2_part 73 = .ok (.iconst (-1), 1) := by decide +kernel
theorem dX2_part_74 : decode cX2_part 74 = .ok (.if_icmp .eq 11, 3) := by decide +kernel
theorem dX2_part_77 : decode cX2_part 77 = .ok (.aload_n 0, 1) := by decide +kernel
theorem dX2_part_78 : decode cX2_part 78 = .ok (.getfield 15, 3) := by decide +kernel
theorem dX2_part_81 : decode cX2_part 81 = .ok (.iload_n 2, 1) := by decide +kernel
theorem dX2_part_82 : decode cX2_part 82 = .ok (.invokevirtual 76, 3) := by decide +kernel
theorem dX2_part_85 : decode cX2_part 85 = .ok (.iload_n 2, 1) := by decide +kernel
theorem dX2_part_86 : decode cX2_part 86 = .ok (.iconst (-1), 1) := by decide +kernel
theorem dX2_part_87 : decode cX2_part 87 = .ok (.if_icmp .eq 7, 3) := by decide +kernel
theorem dX2_part_90 : decode cX2_part 90 = .ok (.iconst 1, 1) := by decide +kernel
theorem dX2_part_91 : decode cX2_part 91 = .ok (.goto 4, 3) := by decide +kernel
theorem dX2_part_94 : decode cX2_part 94 = .ok (.iconst 0, 1) := by decide +kernel
theorem dX2_part_95 : decode cX2_part 95 = .ok (.ireturn, 1) := by decide +kernel
theorem dX2_part_96 : decode cX2_part 96 = .ok (.aload_n 0, 1) := by decide +kernel
theorem dX2_part_97 : decode cX2_part 97 = .ok (.getfield 9, 3) := by decide +kernel
theorem dX2_part_100 : decode cX2_part 100 = .ok (.getfield 33, 3) := by decide +kernel
theorem dX2_part_103 : decode cX2_part 103 = .ok (.istore_n 2, 1) := by decide +kernel
theorem dX2_part_104 : decode cX2_part 104 = .ok (.iload_n 2, 1) := by decide +kernel
theorem dX2_part_105 : decode cX2_part 105 = .ok (.bipush 25, 2) := by decide +kernel
theorem dX2_part_107 : decode cX2_part 107 = .ok (.if_icmp .eq 9, 3) := by decide +kernel
theorem dX2_part_110 : decode cX2_part 110 = .ok (.iload_n 2, 1) := by decide +kernel
theorem dX2_part_111 : decode cX2_part 111 = .ok (.bipush 26, 2) := by decide +kernel
theorem dX2_part_113 : decode cX2_part 113 = .ok (.if_icmp .ne 10, 3) := by decide +kernel
theorem dX2_part_116 : decode cX2_part 116 = .ok (.aload_n 0, 1) := by decide +kernel
theorem dX2_part_117 : decode cX2_part 117 = .ok (.iload_n 1, 1) := by decide +kernel
theorem dX2_part_118 : decode cX2_part 118 = .ok (.iload_n 2, 1) := by decide +kernel
theorem dX2_part_119 : decode cX2_part 119 = .ok (.invokevirtual 92, 3) := by decide +kernel
theorem dX2_part_122 : decode cX2_part 122 = .ok (.ireturn, 1) := by decide +kernel
theorem dX2_part_123 : decode cX2_part 123 = .ok (.aload_n 0, 1) := by decide +kernel
theorem dX2_part_124 : decode cX2_part 124 = .ok (.getfield 25, 3) := by decide +kernel
theorem dX2_part_127 : decode cX2_part 127 = .ok (.iconst 2, 1) := by decide +kernel
theorem dX2_part_128 : decode cX2_part 128 = .ok (.if_icmp .ne 49, 3) := by decide +kernel
theorem dX2_part_131 : decode cX2_part 131 = .ok (.iload_n 2, 1) := by decide +kernel
theorem dX2_part_132 : decode cX2_part 132 = .ok (.bipush 7, 2) := by decide +kernel
theorem dX2_part_134 : decode cX2_part 134 = .ok (.if_icmp .eq 9, 3) := by decide +kernel
theorem dX2_part_137 : decode cX2_part 137 = .ok (.iload_n 2, 1) := by decide +kernel
theorem dX2_part_138 : decode cX2_part 138 = .ok (.bipush 10, 2) := by decide +kernel
theorem dX2_part_140 : decode cX2_part 140 = .ok (.if_icmp .ne 37, 3) := by decide +kernel
theorem dX2_part_143 : decode cX2_part 143 = .ok (.aload_n 0, 1) := by decide +kernel
theorem dX2_part_144 : decode cX2_part 144 = .ok (.iload_n 1, 1) := by decide +kernel
theorem dX2_part_145 : decode cX2_part 145 = .ok (.invokevirtual 73, 3) := by decide +kernel
theorem dX2_part_148 : decode cX2_part 148 = .ok (.ifCond .eq 17, 3) := by decide +kernel
theorem dX2_part_151 : decode cX2_part 151 = .ok (.aload_n 0, 1) := by decide +kernel
theorem dX2_part_152 : decode cX2_part 152 = .ok (.iload_n 1, 1) := by decide +kernel
theorem dX2_part_153 : decode cX2_part 153 = .ok (.iconst 1, 1) := by decide +kernel
theorem dX2_part_154 : decode cX2_part 154 = .ok (.iadd, 1) := by decide +kernel
theorem dX2_part_155 : decode cX2_part 155 = .ok (.invokevirtual 85, 3) := by decide +kernel
theorem dX2_part_158 : decode cX2_part 158 = .ok (.ifCond .eq 7, 3) := by decide +kernel
theorem dX2_part_161 : decode cX2_part 161 = .ok (.iconst 1, 1) := by decide +kernel
theorem dX2_part_162 : decode cX2_part 162 = .ok (.goto 4, 3) := by decide +kernel
theorem dX2_part_165 : decode cX2_part 165 = .ok (.iconst 0, 1) := by decide +kernel
theorem dX2_part_166 : decode cX2_part 166 = .ok (.istore_n 3, 1) := by decide +kernel
theorem dX2_part_167 : decode cX2_part 167 = .ok (.aload_n 0, 1) := by decide +kernel
theorem dX2_part_168 : decode cX2_part 168 = .ok (.getfield 15, 3) := by decide +kernel
theorem dX2_part_171 : decode cX2_part 171 = .ok (.iload_n 2, 1) := by decide +kernel
theorem dX2_part_172 : decode cX2_part 172 = .ok (.invokevirtual 66, 3) := by decide +kernel
theorem dX2_part_175 : decode cX2_part 175 = .ok (.iload_n 3, 1) := by decide +kernel
theorem dX2_part_176 : decode cX2_part 176 = .ok (.ireturn, 1) := by decide +kernel
theorem dX2_part_177 : decode cX2_part 177 = .ok (.aload_n 0, 1) := by decide +kernel
theorem dX2_part_178 : decode cX2_part 178 = .ok (.iload_n 2, 1) := by decide +kernel
theorem dX2_part_179 : decode cX2_part 179 = .ok (.invokevirtual 95, 3) := by decide +kernel
theorem dX2_part_182 : decode cX2_part 182 = .ok (.ifCond .ne 19, 3) := by decide +kernel
theorem dX2_part_185 : decode cX2_part 185 = .ok (.aload_n 0, 1) := by decide +kernel
theorem dX2_part_186 : decode cX2_part 186 = .ok (.getfield 9, 3) := by decide +kernel
theorem dX2_part_189 : decode cX2_part 189 = .ok (.iconst 1, 1) := by decide +kernel
theorem dX2_part_190 : decode cX2_part 190 = .ok (.aload_n 0, 1) := by decide +kernel
theorem dX2_part_191 : decode cX2_part 191 = .ok (.getfield 9, 3) := by decide +kernel
theorem dX2_part_194 : decode cX2_part 194 = .ok (.getfield 36, 3) := by decide +kernel
theorem dX2_part_197 : decode cX2_part 197 = .ok (.invokevirtual 39, 3) := by decide +kernel
theorem dX2_part_200 : decode cX2_part 200 = .ok (.ireturn, 1) := by decide +kernel
theorem dX2_part_201 : decode cX2_part 201 = .ok (.aload_n 0, 1) := by decide +kernel
theorem dX2_part_202 : decode cX2_part 202 = .ok (.getfield 9, 3) := by decide +kernel
theorem dX2_part_205 : decode cX2_part 205 = .ok (.invokevirtual 43, 3) := by decide +kernel
theorem dX2_part_208 : decode cX2_part 208 = .ok (.aload_n 0, 1) := by decide +kernel
theorem dX2_part_209 : decode cX2_part 209 = .ok (.getfield 15, 3) := by decide +kernel
theorem dX2_part_212 : decode cX2_part 212 = .ok (.iload_n 2, 1) := by decide +kernel
theorem dX2_part_213 : decode cX2_part 213 = .ok (.invokevirtual 66, 3) := by decide +kernel
theorem dX2_part_216 : decode cX2_part 216 = .ok (.iconst 1, 1) := by decide +kernel
theorem dX2_part_217 : decode cX2_part 217 = .ok (.ireturn, 1) := by decide +kernel
theorem dX2_ofTwoSums_0 : decode cX2_ofTwoSums 0 = .ok (.aload_n 0, 1) := by decide +kernel
theorem dX2_ofTwoSums_1 : decode cX2_ofTwoSums 1 = .ok (.getfield 9, 3) := by decide +kernel
theorem dX2_ofTwoSums_4 : decode cX2_ofTwoSums 4 = .ok (.invokevirtual 43, 3) := by decide +kernel
theorem dX2_ofTwoSums_7 : decode cX2_ofTwoSums 7 = .ok (.aload_n 0, 1) := by decide +kernel
theorem dX2_ofTwoSums_8 : decode cX2_ofTwoSums 8 = .ok (.getfield 9, 3) := by decide +kernel
theorem dX2_ofTwoSums_11 : decode cX2_ofTwoSums 11 = .ok (.getfield 28, 3) := by decide +kernel
theorem dX2_ofTwoSums_14 : decode cX2_ofTwoSums 14 = .ok (.bipush 40, 2) := by decide +kernel
theorem dX2_ofTwoSums_16 : decode cX2_ofTwoSums 16 = .ok (.if_icmp .eq 19, 3) := by decide +kernel
theorem dX2_ofTwoSums_19 : decode cX2_ofTwoSums 19 = .ok (.aload_n 0, 1) := by decide +kernel
theorem dX2_ofTwoSums_20 : decode cX2_ofTwoSums 20 = .ok (.getfield 9, 3) := by decide +kernel
theorem dX2_ofTwoSums_23 : decode cX2_ofTwoSums 23 = .ok (.iconst 1, 1) := by decide +kernel
theorem dX2_ofTwoSums_24 : decode cX2_ofTwoSums 24 = .ok (.aload_n 0, 1) := by decide +kernel
theorem dX2_ofTwoSums_25 : decode cX2_ofTwoSums 25 = .ok (.getfield 9, 3) := by decide +kernel
theorem dX2_ofTwoSums_28 : decode cX2_ofTwoSums 28 = .ok (.getfield 36, 3) := by decide +kernel
theorem dX2_ofTwoSums_31 : decode cX2_ofTwoSums 31 = .ok (.invokevirtual 39, 3) := by decide +kernel
theorem dX2_ofTwoSums_34 : decode cX2_ofTwoSums 34 = .ok (.ireturn, 1) := by decide +kernel
theorem dX2_ofTwoSums_35 : decode cX2_ofTwoSums 35 = .ok (.aload_n 0, 1) := by decide +kernel
theorem dX2_ofTwoSums_36 : decode cX2_ofTwoSums 36 = .ok (.iload_n 1, 1) := by decide +kernel
theorem dX2_ofTwoSums_37 : decode cX2_ofTwoSums 37 = .ok (.invokevirtual 73, 3) := by decide +kernel
theorem dX2_ofTwoSums_40 : decode cX2_ofTwoSums 40 = .ok (.ifCond .eq 51, 3) := by decide +kernel
theorem dX2_ofTwoSums_43 : decode cX2_ofTwoSums 43 = .ok (.aload_n 0, 1) := by decide +kernel
theorem dX2_ofTwoSums_44 : decode cX2_ofTwoSums 44 = .ok (.iload_n 1, 1) := by decide +kernel
theorem dX2_ofTwoSums_45 : decode cX2_ofTwoSums 45 = .ok (.iconst 1, 1) := by decide +kernel
theorem dX2_ofTwoSums_46 : decode cX2_ofTwoSums 46 = .ok (.iadd, 1) := by decide +kernel
theorem dX2_ofTwoSums_47 : decode cX2_ofTwoSums 47 = .ok (.invokevirtual 54, 3) := by decide +kernel
theorem dX2_ofTwoSums_50 : decode cX2_ofTwoSums 50 = .ok (.ifCond .eq 41, 3) := by decide +kernel
theorem dX2_ofTwoSums_53 : decode cX2_ofTwoSums 53 = .ok (.aload_n 0, 1) := by decide +kernel
theorem dX2_ofTwoSums_54 : decode cX2_ofTwoSums 54 = .ok (.getfield 9, 3) := by decide +kernel
theorem dX2_ofTwoSums_57 : decode cX2_ofTwoSums 57 = .ok (.bipush 44, 2) := by decide +kernel
theorem dX2_ofTwoSums_59 : decode cX2_ofTwoSums 59 = .ok (.invokevirtual 57, 3) := by decide +kernel
theorem dX2_ofTwoSums_62 : decode cX2_ofTwoSums 62 = .ok (.ifCond .eq 29, 3) := by decide +kernel
theorem dX2_ofTwoSums_65 : decode cX2_ofTwoSums 65 = .ok (.aload_n 0, 1) := by decide +kernel
theorem dX2_ofTwoSums_66 : decode cX2_ofTwoSums 66 = .ok (.iload_n 1, 1) := by decide +kernel
theorem dX2_ofTwoSums_67 : decode cX2_ofTwoSums 67 = .ok (.iconst 1, 1) := by decide +kernel
theorem dX2_ofTwoSums_68 : decode cX2_ofTwoSums 68 = .ok (.iadd, 1) := by decide +kernel
theorem dX2_ofTwoSums_69 : decode cX2_ofTwoSums 69 = .ok (.invokevirtual 54, 3) := by decide +kernel
theorem dX2_ofTwoSums_72 : decode cX2_ofTwoSums 72 = .ok (.ifCond .eq 19, 3) := by decide +kernel
theorem dX2_ofTwoSums_75 : decode cX2_ofTwoSums 75 = .ok (.aload_n 0, 1) := by decide +kernel
theorem dX2_ofTwoSums_76 : decode cX2_ofTwoSums 76 = .ok (.getfield 9, 3) := by decide +kernel
theorem dX2_ofTwoSums_79 : decode cX2_ofTwoSums 79 = .ok (.bipush 41, 2) := by decide +kernel
theorem dX2_ofTwoSums_81 : decode cX2_ofTwoSums 81 = .ok (.invokevirtual 57, 3) := by decide +kernel
theorem dX2_ofTwoSums_84 : decode cX2_ofTwoSums 84 = .ok (.ifCond .eq 7, 3) := by decide +kernel
theorem dX2_ofTwoSums_87 : decode cX2_ofTwoSums 87 = .ok (.iconst 1, 1) := by decide +kernel
theorem dX2_ofTwoSums_88 : decode cX2_ofTwoSums 88 = .ok (.goto 4, 3) := by decide +kernel
theorem dX2_ofTwoSums_91 : decode cX2_ofTwoSums 91 = .ok (.iconst 0, 1) := by decide +kernel
theorem dX2_ofTwoSums_92 : decode cX2_ofTwoSums 92 = .ok (.istore_n 3, 1) := by decide +kernel
theorem dX2_ofTwoSums_93 : decode cX2_ofTwoSums 93 = .ok (.aload_n 0, 1) := by decide +kernel
theorem dX2_ofTwoSums_94 : decode cX2_ofTwoSums 94 = .ok (.getfield 15, 3) := by decide +kernel
theorem dX2_ofTwoSums_97 : decode cX2_ofTwoSums 97 = .ok (.iload_n 2, 1) := by decide +kernel
theorem dX2_ofTwoSums_98 : decode cX2_ofTwoSums 98 = .ok (.invokevirtual 66, 3) := by decide +kernel
theorem dX2_ofTwoSums_101 : decode cX2_ofTwoSums 101 = .ok (.iload_n 3, 1) := by decide +kernel
theorem dX2_ofTwoSums_102 : decode cX2_ofTwoSums 102 = .ok (.ireturn, 1) := by decide +kernel
theorem dX2_isFactHere_0 : decode cX2_isFactHere 0 = .ok (.iload_n 1, 1) := by decide +kernel
theorem dX2_isFactHere_1 : decode cX2_isFactHere 1 = .ok (.tableswitch 130 3 20 #[89, 130, 130, 87, 130, 130, 130, 130, 130, 130, 130, 87, 87, 87, 103, 116, 116, 116], 87) := by decide +kernel
theorem dX2_isFactHere_88 : decode cX2_isFactHere 88 = .ok (.iconst 1, 1) := by decide +kernel
theorem dX2_isFactHere_89 : decode cX2_isFactHere 89 = .ok (.ireturn, 1) := by decide +kernel
theorem dX2_isFactHere_90 : decode cX2_isFactHere 90 = .ok (.aload_n 0, 1) := by decide +kernel
theorem dX2_isFactHere_91 : decode cX2_isFactHere 91 = .ok (.getfield 25, 3) := by decide +kernel
theorem dX2_isFactHere_94 : decode cX2_isFactHere 94 = .ok (.iconst 2, 1) := by decide +kernel
theorem dX2_isFactHere_95 : decode cX2_isFactHere 95 = .ok (.if_icmp .eq 7, 3) := by decide +kernel
theorem dX2_isFactHere_98 : decode cX2_isFactHere 98 = .ok (.iconst 1, 1) := by decide +kernel
theorem dX2_isFactHere_99 : decode cX2_isFactHere 99 = .ok (.goto 4, 3) := by decide +kernel
theorem dX2_isFactHere_102 : decode cX2_isFactHere 102 = .ok (.iconst 0, 1) := by decide +kernel
theorem dX2_isFactHere_103 : decode cX2_isFactHere 103 = .ok (.ireturn, 1) := by decide +kernel
theorem dX2_isFactHere_104 : decode cX2_isFactHere 104 = .ok (.aload_n 0, 1) := by decide +kernel
theorem dX2_isFactHere_105 : decode cX2_isFactHere 105 = .ok (.getfield 25, 3) := by decide +kernel
theorem dX2_isFactHere_108 : decode cX2_isFactHere 108 = .ok (.ifCond .ne 7, 3) := by decide +kernel
theorem dX2_isFactHere_111 : decode cX2_isFactHere 111 = .ok (.iconst 1, 1) := by decide +kernel
theorem dX2_isFactHere_112 : decode cX2_isFactHere 112 = .ok (.goto 4, 3) := by decide +kernel
theorem dX2_isFactHere_115 : decode cX2_isFactHere 115 = .ok (.iconst 0, 1) := by decide +kernel
theorem dX2_isFactHere_116 : decode cX2_isFactHere 116 = .ok (.ireturn, 1) := by decide +kernel
theorem dX2_isFactHere_117 : decode cX2_isFactHere 117 = .ok (.aload_n 0, 1) := by decide +kernel
theorem dX2_isFactHere_118 : decode cX2_isFactHere 118 = .ok (.getfield 25, 3) := by decide +kernel
theorem dX2_isFactHere_121 : decode cX2_isFactHere 121 = .ok (.iconst 2, 1) := by decide +kernel
theorem dX2_isFactHere_122 : decode cX2_isFactHere 122 = .ok (.if_icmp .ne 7, 3) := by decide +kernel
theorem dX2_isFactHere_125 : decode cX2_isFactHere 125 = .ok (.iconst 1, 1) := by decide +kernel
theorem dX2_isFactHere_126 : decode cX2_isFactHere 126 = .ok (.goto 4, 3) := by decide +kernel
theorem dX2_isFactHere_129 : decode cX2_isFactHere 129 = .ok (.iconst 0, 1) := by decide +kernel
theorem dX2_isFactHere_130 : decode cX2_isFactHere 130 = .ok (.ireturn, 1) := by decide +kernel
theorem dX2_isFactHere_131 : decode cX2_isFactHere 131 = .ok (.iconst 0, 1) := by decide +kernel
theorem dX2_isFactHere_132 : decode cX2_isFactHere 132 = .ok (.ireturn, 1) := by decide +kernel
theorem dX3_init_0 : decode cX3_init 0 = .ok (.aload_n 0, 1) := by decide +kernel
theorem dX3_init_1 : decode cX3_init 1 = .ok (.invokespecial 3, 3) := by decide +kernel
theorem dX3_init_4 : decode cX3_init 4 = .ok (.aload_n 0, 1) := by decide +kernel
theorem dX3_init_5 : decode cX3_init 5 = .ok (.bipush 49, 2) := by decide +kernel
theorem dX3_init_7 : decode cX3_init 7 = .ok (.newarray .int, 2) := by decide +kernel
theorem dX3_init_9 : decode cX3_init 9 = .ok (.putfield 9, 3) := by decide +kernel
theorem dX3_init_12 : decode cX3_init 12 = .ok (.aload_n 0, 1) := by decide +kernel
theorem dX3_init_13 : decode cX3_init 13 = .ok (.bipush 7, 2) := by decide +kernel
theorem dX3_init_15 : decode cX3_init 15 = .ok (.newarray .int, 2) := by decide +kernel
theorem dX3_init_17 : decode cX3_init 17 = .ok (.putfield 15, 3) := by decide +kernel
theorem dX3_init_20 : decode cX3_init 20 = .ok (.aload_n 0, 1) := by decide +kernel
theorem dX3_init_21 : decode cX3_init 21 = .ok (.bipush 7, 2) := by decide +kernel
theorem dX3_init_23 : decode cX3_init 23 = .ok (.newarray .int, 2) := by decide +kernel
theorem dX3_init_25 : decode cX3_init 25 = .ok (.putfield 18, 3) := by decide +kernel
theorem dX3_init_28 : decode cX3_init 28 = .ok (.aload_n 0, 1) := by decide +kernel
theorem dX3_init_29 : decode cX3_init 29 = .ok (.bipush 7, 2) := by decide +kernel
theorem dX3_init_31 : decode cX3_init 31 = .ok (.newarray .int, 2) := by decide +kernel
theorem dX3_init_33 : decode cX3_init 33 = .ok (.putfield 21, 3) := by decide +kernel
theorem dX3_init_36 : decode cX3_init 36 = .ok (.aload_n 0, 1) := by decide +kernel
theorem dX3_init_37 : decode cX3_init 37 = .ok (.bipush 7, 2) := by decide +kernel
theorem dX3_init_39 : decode cX3_init 39 = .ok (.newarray .int, 2) := by decide +kernel
theorem dX3_init_41 : decode cX3_init 41 = .ok (.putfield 24, 3) := by decide +kernel
theorem dX3_init_44 : decode cX3_init 44 = .ok (.return_, 1) := by decide +kernel
theorem dX3_copyFrom_0 : decode cX3_copyFrom 0 = .ok (.aload_n 0, 1) := by decide +kernel
theorem dX3_copyFrom_1 : decode cX3_copyFrom 1 = .ok (.aload_n 1, 1) := by decide +kernel
theorem dX3_copyFrom_2 : decode cX3_copyFrom 2 = .ok (.getfield 27, 3) := by decide +kernel
theorem dX3_copyFrom_5 : decode cX3_copyFrom 5 = .ok (.putfield 27, 3) := by decide +kernel
theorem dX3_copyFrom_8 : decode cX3_copyFrom 8 = .ok (.aload_n 1, 1) := by decide +kernel
theorem dX3_copyFrom_9 : decode cX3_copyFrom 9 = .ok (.getfield 9, 3) := by decide +kernel
theorem dX3_copyFrom_12 : decode cX3_copyFrom 12 = .ok (.iconst 0, 1) := by decide +kernel
theorem dX3_copyFrom_13 : decode cX3_copyFrom 13 = .ok (.aload_n 0, 1) := by decide +kernel
theorem dX3_copyFrom_14 : decode cX3_copyFrom 14 = .ok (.getfield 9, 3) := by decide +kernel
theorem dX3_copyFrom_17 : decode cX3_copyFrom 17 = .ok (.iconst 0, 1) := by decide +kernel
theorem dX3_copyFrom_18 : decode cX3_copyFrom 18 = .ok (.bipush 49, 2) := by decide +kernel
theorem dX3_copyFrom_20 : decode cX3_copyFrom 20 = .ok (.invokestatic 31, 3) := by decide +kernel
theorem dX3_copyFrom_23 : decode cX3_copyFrom 23 = .ok (.aload_n 1, 1) := by decide +kernel
theorem dX3_copyFrom_24 : decode cX3_copyFrom 24 = .ok (.getfield 15, 3) := by decide +kernel
theorem dX3_copyFrom_27 : decode cX3_copyFrom 27 = .ok (.iconst 0, 1) := by decide +kernel
theorem dX3_copyFrom_28 : decode cX3_copyFrom 28 = .ok (.aload_n 0, 1) := by decide +kernel
theorem dX3_copyFrom_29 : decode cX3_copyFrom 29 = .ok (.getfield 15, 3) := by decide +kernel
theorem dX3_copyFrom_32 : decode cX3_copyFrom 32 = .ok (.iconst 0, 1) := by decide +kernel
theorem dX3_copyFrom_33 : decode cX3_copyFrom 33 = .ok (.bipush 7, 2) := by decide +kernel
theorem dX3_copyFrom_35 : decode cX3_copyFrom 35 = .ok (.invokestatic 31, 3) := by decide +kernel
theorem dX3_copyFrom_38 : decode cX3_copyFrom 38 = .ok (.aload_n 1, 1) := by decide +kernel
theorem dX3_copyFrom_39 : decode cX3_copyFrom 39 = .ok (.getfield 18, 3) := by decide +kernel
theorem dX3_copyFrom_42 : decode cX3_copyFrom 42 = .ok (.iconst 0, 1) := by decide +kernel
theorem dX3_copyFrom_43 : decode cX3_copyFrom 43 = .ok (.aload_n 0, 1) := by decide +kernel
theorem dX3_copyFrom_44 : decode cX3_copyFrom 44 = .ok (.getfield 18, 3) := by decide +kernel
theorem dX3_copyFrom_47 : decode cX3_copyFrom 47 = .ok (.iconst 0, 1) := by decide +kernel
theorem dX3_copyFrom_48 : decode cX3_copyFrom 48 = .ok (.bipush 7, 2) := by decide +kernel
theorem dX3_copyFrom_50 : decode cX3_copyFrom 50 = .ok (.invokestatic 31, 3) := by decide +kernel
theorem dX3_copyFrom_53 : decode cX3_copyFrom 53 = .ok (.aload_n 1, 1) := by decide +kernel
theorem dX3_copyFrom_54 : decode cX3_copyFrom 54 = .ok (.getfield 21, 3) := by decide +kernel
theorem dX3_copyFrom_57 : decode cX3_copyFrom 57 = .ok (.iconst 0, 1) := by decide +kernel
theorem dX3_copyFrom_58 : decode cX3_copyFrom 58 = .ok (.aload_n 0, 1) := by decide +kernel
theorem dX3_copyFrom_59 : decode cX3_copyFrom 59 = .ok (.getfield 21, 3) := by decide +kernel
theorem dX3_copyFrom_62 : decode cX3_copyFrom 62 = .ok (.iconst 0, 1) := by decide +kernel
theorem dX3_copyFrom_63 : decode cX3_copyFrom 63 = .ok (.bipush 7, 2) := by decide +kernel
theorem dX3_copyFrom_65 : decode cX3_copyFrom 65 = .ok (.invokestatic 31, 3) := by decide +kernel
theorem dX3_copyFrom_68 : decode cX3_copyFrom 68 = .ok (.aload_n 1, 1) := by decide +kernel
theorem dX3_copyFrom_69 : decode cX3_copyFrom 69 = .ok (.getfield 24, 3) := by decide +kernel
theorem dX3_copyFrom_72 : decode cX3_copyFrom 72 = .ok (.iconst 0, 1) := by decide +kernel
theorem dX3_copyFrom_73 : decode cX3_copyFrom 73 = .ok (.aload_n 0, 1) := by decide +kernel
theorem dX3_copyFrom_74 : decode cX3_copyFrom 74 = .ok (.getfield 24, 3) := by decide +kernel
theorem dX3_copyFrom_77 : decode cX3_copyFrom 77 = .ok (.iconst 0, 1) := by decide +kernel
theorem dX3_copyFrom_78 : decode cX3_copyFrom 78 = .ok (.bipush 7, 2) := by decide +kernel
theorem dX3_copyFrom_80 : decode cX3_copyFrom 80 = .ok (.invokestatic 31, 3) := by decide +kernel
theorem dX3_copyFrom_83 : decode cX3_copyFrom 83 = .ok (.return_, 1) := by decide +kernel
theorem dX3_together_0 : decode cX3_together 0 = .ok (.iconst 0, 1) := by decide +kernel
theorem dX3_together_1 : decode cX3_together 1 = .ok (.istore_n 2, 1) := by decide +kernel
theorem dX3_together_2 : decode cX3_together 2 = .ok (.iconst 0, 1) := by decide +kernel
theorem dX3_together_3 : decode cX3_together 3 = .ok (.istore_n 3, 1) := by decide +kernel
theorem dX3_together_4 : decode cX3_together 4 = .ok (.iload_n 3, 1) := by decide +kernel
theorem dX3_together_5 : decode cX3_together 5 = .ok (.iload_n 1, 1) := by decide +kernel
theorem dX3_together_6 : decode cX3_together 6 = .ok (.if_icmp .ge 24, 3) := by decide +kernel
theorem dX3_together_9 : decode cX3_together 9 = .ok (.iload_n 3, 1) := by decide +kernel
theorem dX3_together_10 : decode cX3_together 10 = .ok (.bipush 49, 2) := by decide +kernel
theorem dX3_together_12 : decode cX3_together 12 = .ok (.if_icmp .ge 18, 3) := by decide +kernel
theorem dX3_together_15 : decode cX3_together 15 = .ok (.iload_n 2, 1) := by decide +kernel
theorem dX3_together_16 : decode cX3_together 16 = .ok (.aload_n 0, 1) := by decide +kernel
theorem dX3_together_17 : decode cX3_together 17 = .ok (.getfield 9, 3) := by decide +kernel
theorem dX3_together_20 : decode cX3_together 20 = .ok (.iload_n 3, 1) := by decide +kernel
theorem dX3_together_21 : decode cX3_together 21 = .ok (.iaload, 1) := by decide +kernel
theorem dX3_together_22 : decode cX3_together 22 = .ok (.iadd, 1) := by decide +kernel
theorem dX3_together_23 : decode cX3_together 23 = .ok (.istore_n 2, 1) := by decide +kernel
theorem dX3_together_24 : decode cX3_together 24 = .ok (.iinc 3 1, 3) := by decide +kernel
theorem dX3_together_27 : decode cX3_together 27 = .ok (.goto (-23), 3) := by decide +kernel
theorem dX3_together_30 : decode cX3_together 30 = .ok (.iload_n 2, 1) := by decide +kernel
theorem dX3_together_31 : decode cX3_together 31 = .ok (.ireturn, 1) := by decide +kernel
theorem dX3_isSomeoneAt_0 : decode cX3_isSomeoneAt 0 = .ok (.iconst 0, 1) := by decide +kernel
theorem dX3_isSomeoneAt_1 : decode cX3_isSomeoneAt 1 = .ok (.istore 4, 2) := by decide +kernel
theorem dX3_isSomeoneAt_3 : decode cX3_isSomeoneAt 3 = .ok (.iload 4, 2) := by decide +kernel
theorem dX3_isSomeoneAt_5 : decode cX3_isSomeoneAt 5 = .ok (.iload_n 3, 1) := by decide +kernel
theorem dX3_isSomeoneAt_6 : decode cX3_isSomeoneAt 6 = .ok (.if_icmp .ge 40, 3) := by decide +kernel
theorem dX3_isSomeoneAt_9 : decode cX3_isSomeoneAt 9 = .ok (.iload 4, 2) := by decide +kernel
theorem dX3_isSomeoneAt_11 : decode cX3_isSomeoneAt 11 = .ok (.bipush 7, 2) := by decide +kernel
theorem dX3_isSomeoneAt_13 : decode cX3_isSomeoneAt 13 = .ok (.if_icmp .ge 33, 3) := by decide +kernel
theorem dX3_isSomeoneAt_16 : decode cX3_isSomeoneAt 16 = .ok (.aload_n 0, 1) := by decide +kernel
theorem dX3_isSomeoneAt_17 : decode cX3_isSomeoneAt 17 = .ok (.getfield 15, 3) := by decide +kernel
theorem dX3_isSomeoneAt_20 : decode cX3_isSomeoneAt 20 = .ok (.iload 4, 2) := by decide +kernel
theorem dX3_isSomeoneAt_22 : decode cX3_isSomeoneAt 22 = .ok (.iaload, 1) := by decide +kernel
theorem dX3_isSomeoneAt_23 : decode cX3_isSomeoneAt 23 = .ok (.iload_n 1, 1) := by decide +kernel
theorem dX3_isSomeoneAt_24 : decode cX3_isSomeoneAt 24 = .ok (.if_icmp .ne 16, 3) := by decide +kernel
theorem dX3_isSomeoneAt_27 : decode cX3_isSomeoneAt 27 = .ok (.aload_n 0, 1) := by decide +kernel
theorem dX3_isSomeoneAt_28 : decode cX3_isSomeoneAt 28 = .ok (.getfield 18, 3) := by decide +kernel
theorem dX3_isSomeoneAt_31 : decode cX3_isSomeoneAt 31 = .ok (.iload 4, 2) := by decide +kernel
theorem dX3_isSomeoneAt_33 : decode cX3_isSomeoneAt 33 = .ok (.iaload, 1) := by decide +kernel
theorem dX3_isSomeoneAt_34 : decode cX3_isSomeoneAt 34 = .ok (.iload_n 2, 1) := by decide +kernel
theorem dX3_isSomeoneAt_35 : decode cX3_isSomeoneAt 35 = .ok (.if_icmp .ne 5, 3) := by decide +kernel
theorem dX3_isSomeoneAt_38 : decode cX3_isSomeoneAt 38 = .ok (.iconst 1, 1) := by decide +kernel
theorem dX3_isSomeoneAt_39 : decode cX3_isSomeoneAt 39 = .ok (.ireturn, 1) := by decide +kernel
theorem dX3_isSomeoneAt_40 : decode cX3_isSomeoneAt 40 = .ok (.iinc 4 1, 3) := by decide +kernel
theorem dX3_isSomeoneAt_43 : decode cX3_isSomeoneAt 43 = .ok (.goto (-40), 3) := by decide +kernel
theorem dX3_isSomeoneAt_46 : decode cX3_isSomeoneAt 46 = .ok (.iconst 0, 1) := by decide +kernel
theorem dX3_isSomeoneAt_47 : decode cX3_isSomeoneAt 47 = .ok (.ireturn, 1) := by decide +kernel
theorem dX4_init_0 : decode cX4_init 0 = .ok (.aload_n 0, 1) := by decide +kernel
theorem dX4_init_1 : decode cX4_init 1 = .ok (.invokespecial 3, 3) := by decide +kernel
theorem dX4_init_4 : decode cX4_init 4 = .ok (.aload_n 0, 1) := by decide +kernel
theorem dX4_init_5 : decode cX4_init 5 = .ok (.sipush 160, 3) := by decide +kernel
theorem dX4_init_8 : decode cX4_init 8 = .ok (.newarray .int, 2) := by decide +kernel
theorem dX4_init_10 : decode cX4_init 10 = .ok (.putfield 9, 3) := by decide +kernel
theorem dX4_init_13 : decode cX4_init 13 = .ok (.aload_n 0, 1) := by decide +kernel
theorem dX4_init_14 : decode cX4_init 14 = .ok (.bipush 20, 2) := by decide +kernel
theorem dX4_init_16 : decode cX4_init 16 = .ok (.anewarray 15, 3) := by decide +kernel
theorem dX4_init_19 : decode cX4_init 19 = .ok (.putfield 17, 3) := by decide +kernel
theorem dX4_init_22 : decode cX4_init 22 = .ok (.aload_n 0, 1) := by decide +kernel
theorem dX4_init_23 : decode cX4_init 23 = .ok (.bipush 20, 2) := by decide +kernel
theorem dX4_init_25 : decode cX4_init 25 = .ok (.sipush 160, 3) := by decide +kernel
theorem dX4_init_28 : decode cX4_init 28 = .ok (.multianewarray 21 2, 4) := by decide +kernel
theorem dX4_init_32 : decode cX4_init 32 = .ok (.putfield 23, 3) := by decide +kernel
theorem dX4_init_35 : decode cX4_init 35 = .ok (.aload_n 0, 1) := by decide +kernel
theorem dX4_init_36 : decode cX4_init 36 = .ok (.bipush 20, 2) := by decide +kernel
theorem dX4_init_38 : decode cX4_init 38 = .ok (.newarray .int, 2) := by decide +kernel
theorem dX4_init_40 : decode cX4_init 40 = .ok (.putfield 26, 3) := by decide +kernel
theorem dX4_init_43 : decode cX4_init 43 = .ok (.iconst 0, 1) := by decide +kernel
theorem dX4_init_44 : decode cX4_init 44 = .ok (.istore_n 1, 1) := by decide +kernel
theorem dX4_init_45 : decode cX4_init 45 = .ok (.iload_n 1, 1) := by decide +kernel
theorem dX4_init_46 : decode cX4_init 46 = .ok (.bipush 20, 2) := by decide +kernel
theorem dX4_init_48 : decode cX4_init 48 = .ok (.if_icmp .ge 22, 3) := by decide +kernel
theorem dX4_init_51 : decode cX4_init 51 = .ok (.aload_n 0, 1) := by decide +kernel
theorem dX4_init_52 : decode cX4_init 52 = .ok (.getfield 17, 3) := by decide +kernel
theorem dX4_init_55 : decode cX4_init 55 = .ok (.iload_n 1, 1) := by decide +kernel
theorem dX4_init_56 : decode cX4_init 56 = .ok (.new 15, 3) := by decide +kernel
theorem dX4_init_59 : decode cX4_init 59 = .ok (.dup, 1) := by decide +kernel
theorem dX4_init_60 : decode cX4_init 60 = .ok (.invokespecial 29, 3) := by decide +kernel
theorem dX4_init_63 : decode cX4_init 63 = .ok (.aastore, 1) := by decide +kernel
theorem dX4_init_64 : decode cX4_init 64 = .ok (.iinc 1 1, 3) := by decide +kernel
theorem dX4_init_67 : decode cX4_init 67 = .ok (.goto (-22), 3) := by decide +kernel
theorem dX4_init_70 : decode cX4_init 70 = .ok (.return_, 1) := by decide +kernel
theorem dX4_forget_0 : decode cX4_forget 0 = .ok (.aload_n 0, 1) := by decide +kernel
theorem dX4_forget_1 : decode cX4_forget 1 = .ok (.iconst 0, 1) := by decide +kernel
theorem dX4_forget_2 : decode cX4_forget 2 = .ok (.putfield 30, 3) := by decide +kernel
theorem dX4_forget_5 : decode cX4_forget 5 = .ok (.aload_n 0, 1) := by decide +kernel
theorem dX4_forget_6 : decode cX4_forget 6 = .ok (.iconst 0, 1) := by decide +kernel
theorem dX4_forget_7 : decode cX4_forget 7 = .ok (.putfield 34, 3) := by decide +kernel
theorem dX4_forget_10 : decode cX4_forget 10 = .ok (.return_, 1) := by decide +kernel
theorem dX4_keep_0 : decode cX4_keep 0 = .ok (.aload_n 0, 1) := by decide +kernel
theorem dX4_keep_1 : decode cX4_keep 1 = .ok (.getfield 30, 3) := by decide +kernel
theorem dX4_keep_4 : decode cX4_keep 4 = .ok (.bipush 40, 2) := by decide +kernel
theorem dX4_keep_6 : decode cX4_keep 6 = .ok (.if_icmp .lt 29, 3) := by decide +kernel
theorem dX4_keep_9 : decode cX4_keep 9 = .ok (.aload_n 0, 1) := by decide +kernel
theorem dX4_keep_10 : decode cX4_keep 10 = .ok (.getfield 9, 3) := by decide +kernel
theorem dX4_keep_13 : decode cX4_keep 13 = .ok (.iconst 4, 1) := by decide +kernel
theorem dX4_keep_14 : decode cX4_keep 14 = .ok (.aload_n 0, 1) := by decide +kernel
theorem dX4_keep_15 : decode cX4_keep 15 = .ok (.getfield 9, 3) := by decide +kernel
theorem dX4_keep_18 : decode cX4_keep 18 = .ok (.iconst 0, 1) := by decide +kernel
theorem dX4_keep_19 : decode cX4_keep 19 = .ok (.aload_n 0, 1) := by decide +kernel
theorem dX4_keep_20 : decode cX4_keep 20 = .ok (.getfield 9, 3) := by decide +kernel
theorem dX4_keep_23 : decode cX4_keep 23 = .ok (.arraylength, 1) := by decide +kernel
theorem dX4_keep_24 : decode cX4_keep 24 = .ok (.iconst 4, 1) := by decide +kernel
theorem dX4_keep_25 : decode cX4_keep 25 = .ok (.isub, 1) := by decide +kernel
theorem dX4_keep_26 : decode cX4_keep 26 = .ok (.invokestatic 37, 3) := by decide +kernel
theorem dX4_keep_29 : decode cX4_keep 29 = .ok (.aload_n 0, 1) := by decide +kernel
theorem dX4_keep_30 : decode cX4_keep 30 = .ok (.bipush 39, 2) := by decide +kernel
theorem dX4_keep_32 : decode cX4_keep 32 = .ok (.putfield 30, 3) := by decide +kernel
theorem dX4_keep_35 : decode cX4_keep 35 = .ok (.aload_n 0, 1) := by decide +kernel
theorem dX4_keep_36 : decode cX4_keep 36 = .ok (.getfield 30, 3) := by decide +kernel
theorem dX4_keep_39 : decode cX4_keep 39 = .ok (.iconst 4, 1) := by decide +kernel
theorem dX4_keep_40 : decode cX4_keep 40 = .ok (.imul, 1) := by decide +kernel
theorem dX4_keep_41 : decode cX4_keep 41 = .ok (.istore 5, 2) := by decide +kernel
theorem dX4_keep_43 : decode cX4_keep 43 = .ok (.aload_n 0, 1) := by decide +kernel
theorem dX4_keep_44 : decode cX4_keep 44 = .ok (.getfield 9, 3) := by decide +kernel
theorem dX4_keep_47 : decode cX4_keep 47 = .ok (.iload 5, 2) := by decide +kernel
theorem dX4_keep_49 : decode cX4_keep 49 = .ok (.iload_n 1, 1) := by decide +kernel
theorem dX4_keep_50 : decode cX4_keep 50 = .ok (.iastore, 1) := by decide +kernel
theorem dX4_keep_51 : decode cX4_keep 51 = .ok (.aload_n 0, 1) := by decide +kernel
theorem dX4_keep_52 : decode cX4_keep 52 = .ok (.getfield 9, 3) := by decide +kernel
theorem dX4_keep_55 : decode cX4_keep 55 = .ok (.iload 5, 2) := by decide +kernel
theorem dX4_keep_57 : decode cX4_keep 57 = .ok (.iconst 1, 1) := by decide +kernel
theorem dX4_keep_58 : decode cX4_keep 58 = .ok (.iadd, 1) := by decide +kernel
theorem dX4_keep_59 : decode cX4_keep 59 = .ok (.iload_n 2, 1) := by decide +kernel
theorem dX4_keep_60 : decode cX4_keep 60 = .ok (.iastore, 1) := by decide +kernel
theorem dX4_keep_61 : decode cX4_keep 61 = .ok (.aload_n 0, 1) := by decide +kernel
theorem dX4_keep_62 : decode cX4_keep 62 = .ok (.getfield 9, 3) := by decide +kernel
theorem dX4_keep_65 : decode cX4_keep 65 = .ok (.iload 5, 2) := by decide +kernel
theorem dX4_keep_67 : decode cX4_keep 67 = .ok (.iconst 2, 1) := by decide +kernel
theorem dX4_keep_68 : decode cX4_keep 68 = .ok (.iadd, 1) := by decide +kernel
theorem dX4_keep_69 : decode cX4_keep 69 = .ok (.iload_n 3, 1) := by decide +kernel
theorem dX4_keep_70 : decode cX4_keep 70 = .ok (.iastore, 1) := by decide +kernel
theorem dX4_keep_71 : decode cX4_keep 71 = .ok (.aload_n 0, 1) := by decide +kernel
theorem dX4_keep_72 : decode cX4_keep 72 = .ok (.getfield 9, 3) := by decide +kernel
theorem dX4_keep_75 : decode cX4_keep 75 = .ok (.iload 5, 2) := by decide +kernel
theorem dX4_keep_77 : decode cX4_keep 77 = .ok (.iconst 3, 1) := by decide +kernel
theorem dX4_keep_78 : decode cX4_keep 78 = .ok (.iadd, 1) := by decide +kernel
theorem dX4_keep_79 : decode cX4_keep 79 = .ok (.iload 4, 2) := by decide +kernel
theorem dX4_keep_81 : decode cX4_keep 81 = .ok (.iastore, 1) := by decide +kernel
theorem dX4_keep_82 : decode cX4_keep 82 = .ok (.aload_n 0, 1) := by decide +kernel
theorem dX4_keep_83 : decode cX4_keep 83 = .ok (.dup, 1) := by decide +kernel
theorem dX4_keep_84 : decode cX4_keep 84 = .ok (.getfield 30, 3) := by decide +kernel
theorem dX4_keep_87 : decode cX4_keep 87 = .ok (.iconst 1, 1) := by decide +kernel
theorem dX4_keep_88 : decode cX4_keep 88 = .ok (.iadd, 1) := by decide +kernel
theorem dX4_keep_89 : decode cX4_keep 89 = .ok (.putfield 30, 3) := by decide +kernel
theorem dX4_keep_92 : decode cX4_keep 92 = .ok (.return_, 1) := by decide +kernel
theorem dX4_remember_0 : decode cX4_remember 0 = .ok (.aload_n 0, 1) := by decide +kernel
theorem dX4_remember_1 : decode cX4_remember 1 = .ok (.getfield 43, 3) := by decide +kernel
theorem dX4_remember_4 : decode cX4_remember 4 = .ok (.aload_n 0, 1) := by decide +kernel
theorem dX4_remember_5 : decode cX4_remember 5 = .ok (.getfield 34, 3) := by decide +kernel
theorem dX4_remember_8 : decode cX4_remember 8 = .ok (.iadd, 1) := by decide +kernel
theorem dX4_remember_9 : decode cX4_remember 9 = .ok (.bipush 20, 2) := by decide +kernel
theorem dX4_remember_11 : decode cX4_remember 11 = .ok (.irem, 1) := by decide +kernel
theorem dX4_remember_12 : decode cX4_remember 12 = .ok (.istore_n 2, 1) := by decide +kernel
theorem dX4_remember_13 : decode cX4_remember 13 = .ok (.aload_n 0, 1) := by decide +kernel
theorem dX4_remember_14 : decode cX4_remember 14 = .ok (.getfield 17, 3) := by decide +kernel
theorem dX4_remember_17 : decode cX4_remember 17 = .ok (.iload_n 2, 1) := by decide +kernel
theorem dX4_remember_18 : decode cX4_remember 18 = .ok (.aaload, 1) := by decide +kernel
theorem dX4_remember_19 : decode cX4_remember 19 = .ok (.aload_n 1, 1) := by decide +kernel
theorem dX4_remember_20 : decode cX4_remember 20 = .ok (.invokevirtual 46, 3) := by decide +kernel
theorem dX4_remember_23 : decode cX4_remember 23 = .ok (.aload_n 0, 1) := by decide +kernel
theorem dX4_remember_24 : decode cX4_remember 24 = .ok (.getfield 9, 3) := by decide +kernel
theorem dX4_remember_27 : decode cX4_remember 27 = .ok (.iconst 0, 1) := by decide +kernel
theorem dX4_remember_28 : decode cX4_remember 28 = .ok (.aload_n 0, 1) := by decide +kernel
theorem dX4_remember_29 : decode cX4_remember 29 = .ok (.getfield 23, 3) := by decide +kernel
theorem dX4_remember_32 : decode cX4_remember 32 = .ok (.iload_n 2, 1) := by decide +kernel
theorem dX4_remember_33 : decode cX4_remember 33 = .ok (.aaload, 1) := by decide +kernel
theorem dX4_remember_34 : decode cX4_remember 34 = .ok (.iconst 0, 1) := by decide +kernel
theorem dX4_remember_35 : decode cX4_remember 35 = .ok (.aload_n 0, 1) := by decide +kernel
theorem dX4_remember_36 : decode cX4_remember 36 = .ok (.getfield 9, 3) := by decide +kernel
theorem dX4_remember_39 : decode cX4_remember 39 = .ok (.arraylength, 1) := by decide +kernel
theorem dX4_remember_40 : decode cX4_remember 40 = .ok (.invokestatic 37, 3) := by decide +kernel
theorem dX4_remember_43 : decode cX4_remember 43 = .ok (.aload_n 0, 1) := by decide +kernel
theorem dX4_remember_44 : decode cX4_remember 44 = .ok (.getfield 26, 3) := by decide +kernel
theorem dX4_remember_47 : decode cX4_remember 47 = .ok (.iload_n 2, 1) := by decide +kernel
theorem dX4_remember_48 : decode cX4_remember 48 = .ok (.aload_n 0, 1) := by decide +kernel
theorem dX4_remember_49 : decode cX4_remember 49 = .ok (.getfield 30, 3) := by decide +kernel
theorem dX4_remember_52 : decode cX4_remember 52 = .ok (.iastore, 1) := by decide +kernel
theorem dX4_remember_53 : decode cX4_remember 53 = .ok (.aload_n 0, 1) := by decide +kernel
theorem dX4_remember_54 : decode cX4_remember 54 = .ok (.getfield 34, 3) := by decide +kernel
theorem dX4_remember_57 : decode cX4_remember 57 = .ok (.bipush 20, 2) := by decide +kernel
theorem dX4_remember_59 : decode cX4_remember 59 = .ok (.if_icmp .ge 16, 3) := by decide +kernel
theorem dX4_remember_62 : decode cX4_remember 62 = .ok (.aload_n 0, 1) := by decide +kernel
theorem dX4_remember_63 : decode cX4_remember 63 = .ok (.dup, 1) := by decide +kernel
theorem dX4_remember_64 : decode cX4_remember 64 = .ok (.getfield 34, 3) := by decide +kernel
theorem dX4_remember_67 : decode cX4_remember 67 = .ok (.iconst 1, 1) := by decide +kernel
theorem dX4_remember_68 : decode cX4_remember 68 = .ok (.iadd, 1) := by decide +kernel
theorem dX4_remember_69 : decode cX4_remember 69 = .ok (.putfield 34, 3) := by decide +kernel
theorem dX4_remember_72 : decode cX4_remember 72 = .ok (.goto 16, 3) := by decide +kernel
theorem dX4_remember_75 : decode cX4_remember 75 = .ok (.aload_n 0, 1) := by decide +kernel
theorem dX4_remember_76 : decode cX4_remember 76 = .ok (.aload_n 0, 1) := by decide +kernel
theorem dX4_remember_77 : decode cX4_remember 77 = .ok (.getfield 43, 3) := by decide +kernel
theorem dX4_remember_80 : decode cX4_remember 80 = .ok (.iconst 1, 1) := by decide +kernel
theorem dX4_remember_81 : decode cX4_remember 81 = .ok (.iadd, 1) := by decide +kernel
theorem dX4_remember_82 : decode cX4_remember 82 = .ok (.bipush 20, 2) := by decide +kernel
theorem dX4_remember_84 : decode cX4_remember 84 = .ok (.irem, 1) := by decide +kernel
theorem dX4_remember_85 : decode cX4_remember 85 = .ok (.putfield 43, 3) := by decide +kernel
theorem dX4_remember_88 : decode cX4_remember 88 = .ok (.return_, 1) := by decide +kernel
theorem dX4_goBack_0 : decode cX4_goBack 0 = .ok (.aload_n 0, 1) := by decide +kernel
theorem dX4_goBack_1 : decode cX4_goBack 1 = .ok (.getfield 34, 3) := by decide +kernel
theorem dX4_goBack_4 : decode cX4_goBack 4 = .ok (.ifCond .ne 5, 3) := by decide +kernel
theorem dX4_goBack_7 : decode cX4_goBack 7 = .ok (.iconst 0, 1) := by decide +kernel
theorem dX4_goBack_8 : decode cX4_goBack 8 = .ok (.ireturn, 1) := by decide +kernel
theorem dX4_goBack_9 : decode cX4_goBack 9 = .ok (.aload_n 0, 1) := by decide +kernel
theorem dX4_goBack_10 : decode cX4_goBack 10 = .ok (.dup, 1) := by decide +kernel
theorem dX4_goBack_11 : decode cX4_goBack 11 = .ok (.getfield 34, 3) := by decide +kernel
theorem dX4_goBack_14 : decode cX4_goBack 14 = .ok (.iconst 1, 1) := by decide +kernel
theorem dX4_goBack_15 : decode cX4_goBack 15 = .ok (.isub, 1) := by decide +kernel
theorem dX4_goBack_16 : decode cX4_goBack 16 = .ok (.putfield 34, 3) := by decide +kernel
theorem dX4_goBack_19 : decode cX4_goBack 19 = .ok (.aload_n 0, 1) := by decide +kernel
theorem dX4_goBack_20 : decode cX4_goBack 20 = .ok (.getfield 43, 3) := by decide +kernel
theorem dX4_goBack_23 : decode cX4_goBack 23 = .ok (.aload_n 0, 1) := by decide +kernel
theorem dX4_goBack_24 : decode cX4_goBack 24 = .ok (.getfield 34, 3) := by decide +kernel
theorem dX4_goBack_27 : decode cX4_goBack 27 = .ok (.iadd, 1) := by decide +kernel
theorem dX4_goBack_28 : decode cX4_goBack 28 = .ok (.bipush 20, 2) := by decide +kernel
theorem dX4_goBack_30 : decode cX4_goBack 30 = .ok (.irem, 1) := by decide +kernel
theorem dX4_goBack_31 : decode cX4_goBack 31 = .ok (.istore_n 2, 1) := by decide +kernel
theorem dX4_goBack_32 : decode cX4_goBack 32 = .ok (.aload_n 1, 1) := by decide +kernel
theorem dX4_goBack_33 : decode cX4_goBack 33 = .ok (.aload_n 0, 1) := by decide +kernel
theorem dX4_goBack_34 : decode cX4_goBack 34 = .ok (.getfield 17, 3) := by decide +kernel
theorem dX4_goBack_37 : decode cX4_goBack 37 = .ok (.iload_n 2, 1) := by decide +kernel
theorem dX4_goBack_38 : decode cX4_goBack 38 = .ok (.aaload, 1) := by decide +kernel
theorem dX4_goBack_39 : decode cX4_goBack 39 = .ok (.invokevirtual 46, 3) := by decide +kernel
theorem dX4_goBack_42 : decode cX4_goBack 42 = .ok (.aload_n 0, 1) := by decide +kernel
theorem dX4_goBack_43 : decode cX4_goBack 43 = .ok (.getfield 23, 3) := by decide +kernel
theorem dX4_goBack_46 : decode cX4_goBack 46 = .ok (.iload_n 2, 1) := by decide +kernel
theorem dX4_goBack_47 : decode cX4_goBack 47 = .ok (.aaload, 1) := by decide +kernel
theorem dX4_goBack_48 : decode cX4_goBack 48 = .ok (.iconst 0, 1) := by decide +kernel
theorem dX4_goBack_49 : decode cX4_goBack 49 = .ok (.aload_n 0, 1) := by decide +kernel
theorem dX4_goBack_50 : decode cX4_goBack 50 = .ok (.getfield 9, 3) := by decide +kernel
theorem dX4_goBack_53 : decode cX4_goBack 53 = .ok (.iconst 0, 1) := by decide +kernel
theorem dX4_goBack_54 : decode cX4_goBack 54 = .ok (.aload_n 0, 1) := by decide +kernel
theorem dX4_goBack_55 : decode cX4_goBack 55 = .ok (.getfield 9, 3) := by decide +kernel
theorem dX4_goBack_58 : decode cX4_goBack 58 = .ok (.arraylength, 1) := by decide +kernel
theorem dX4_goBack_59 : decode cX4_goBack 59 = .ok (.invokestatic 37, 3) := by decide +kernel
theorem dX4_goBack_62 : decode cX4_goBack 62 = .ok (.aload_n 0, 1) := by decide +kernel
theorem dX4_goBack_63 : decode cX4_goBack 63 = .ok (.aload_n 0, 1) := by decide +kernel
theorem dX4_goBack_64 : decode cX4_goBack 64 = .ok (.getfield 26, 3) := by decide +kernel
theorem dX4_goBack_67 : decode cX4_goBack 67 = .ok (.iload_n 2, 1) := by decide +kernel
theorem dX4_goBack_68 : decode cX4_goBack 68 = .ok (.iaload, 1) := by decide +kernel
theorem dX4_goBack_69 : decode cX4_goBack 69 = .ok (.putfield 30, 3) := by decide +kernel
theorem dX4_goBack_72 : decode cX4_goBack 72 = .ok (.iconst 1, 1) := by decide +kernel
theorem dX4_goBack_73 : decode cX4_goBack 73 = .ok (.ireturn, 1) := by decide +kernel
theorem dX5_init_0 : decode cX5_init 0 = .ok (.aload_n 0, 1) := by decide +kernel
theorem dX5_init_1 : decode cX5_init 1 = .ok (.invokespecial 3, 3) := by decide +kernel
theorem dX5_init_4 : decode cX5_init 4 = .ok (.aload_n 0, 1) := by decide +kernel
theorem dX5_init_5 : decode cX5_init 5 = .ok (.iconst 5, 1) := by decide +kernel
theorem dX5_init_6 : decode cX5_init 6 = .ok (.newarray .int, 2) := by decide +kernel
theorem dX5_init_8 : decode cX5_init 8 = .ok (.putfield 9, 3) := by decide +kernel
theorem dX5_init_11 : decode cX5_init 11 = .ok (.aload_n 0, 1) := by decide +kernel
theorem dX5_init_12 : decode cX5_init 12 = .ok (.bipush 7, 2) := by decide +kernel
theorem dX5_init_14 : decode cX5_init 14 = .ok (.newarray .int, 2) := by decide +kernel
theorem dX5_init_16 : decode cX5_init 16 = .ok (.putfield 15, 3) := by decide +kernel
theorem dX5_init_19 : decode cX5_init 19 = .ok (.aload_n 0, 1) := by decide +kernel
theorem dX5_init_20 : decode cX5_init 20 = .ok (.bipush 12, 2) := by decide +kernel
theorem dX5_init_22 : decode cX5_init 22 = .ok (.newarray .int, 2) := by decide +kernel
theorem dX5_init_24 : decode cX5_init 24 = .ok (.putfield 18, 3) := by decide +kernel
theorem dX5_init_27 : decode cX5_init 27 = .ok (.aload_n 0, 1) := by decide +kernel
theorem dX5_init_28 : decode cX5_init 28 = .ok (.bipush 12, 2) := by decide +kernel
theorem dX5_init_30 : decode cX5_init 30 = .ok (.newarray .int, 2) := by decide +kernel
theorem dX5_init_32 : decode cX5_init 32 = .ok (.putfield 21, 3) := by decide +kernel
theorem dX5_init_35 : decode cX5_init 35 = .ok (.aload_n 0, 1) := by decide +kernel
theorem dX5_init_36 : decode cX5_init 36 = .ok (.new 24, 3) := by decide +kernel
theorem dX5_init_39 : decode cX5_init 39 = .ok (.dup, 1) := by decide +kernel
theorem dX5_init_40 : decode cX5_init 40 = .ok (.invokespecial 26, 3) := by decide +kernel
theorem dX5_init_43 : decode cX5_init 43 = .ok (.putfield 27, 3) := by decide +kernel
theorem dX5_init_46 : decode cX5_init 46 = .ok (.aload_n 0, 1) := by decide +kernel
theorem dX5_init_47 : decode cX5_init 47 = .ok (.new 24, 3) := by decide +kernel
theorem dX5_init_50 : decode cX5_init 50 = .ok (.dup, 1) := by decide +kernel
theorem dX5_init_51 : decode cX5_init 51 = .ok (.invokespecial 26, 3) := by decide +kernel
theorem dX5_init_54 : decode cX5_init 54 = .ok (.putfield 31, 3) := by decide +kernel
theorem dX5_init_57 : decode cX5_init 57 = .ok (.aload_n 0, 1) := by decide +kernel
theorem dX5_init_58 : decode cX5_init 58 = .ok (.new 24, 3) := by decide +kernel
theorem dX5_init_61 : decode cX5_init 61 = .ok (.dup, 1) := by decide +kernel
theorem dX5_init_62 : decode cX5_init 62 = .ok (.invokespecial 26, 3) := by decide +kernel
theorem dX5_init_65 : decode cX5_init 65 = .ok (.putfield 34, 3) := by decide +kernel
theorem dX5_init_68 : decode cX5_init 68 = .ok (.aload_n 0, 1) := by decide +kernel
theorem dX5_init_69 : decode cX5_init 69 = .ok (.new 37, 3) := by decide +kernel
theorem dX5_init_72 : decode cX5_init 72 = .ok (.dup, 1) := by decide +kernel
theorem dX5_init_73 : decode cX5_init 73 = .ok (.invokespecial 39, 3) := by decide +kernel
theorem dX5_init_76 : decode cX5_init 76 = .ok (.putfield 40, 3) := by decide +kernel
theorem dX5_init_79 : decode cX5_init 79 = .ok (.return_, 1) := by decide +kernel
theorem dX5_clear_0 : decode cX5_clear 0 = .ok (.aload_n 0, 1) := by decide +kernel
theorem dX5_clear_1 : decode cX5_clear 1 = .ok (.iconst 0, 1) := by decide +kernel
theorem dX5_clear_2 : decode cX5_clear 2 = .ok (.putfield 44, 3) := by decide +kernel
theorem dX5_clear_5 : decode cX5_clear 5 = .ok (.aload_n 0, 1) := by decide +kernel
theorem dX5_clear_6 : decode cX5_clear 6 = .ok (.iconst 0, 1) := by decide +kernel
theorem dX5_clear_7 : decode cX5_clear 7 = .ok (.putfield 48, 3) := by decide +kernel
theorem dX5_clear_10 : decode cX5_clear 10 = .ok (.aload_n 0, 1) := by decide +kernel
theorem dX5_clear_11 : decode cX5_clear 11 = .ok (.iconst 0, 1) := by decide +kernel
theorem dX5_clear_12 : decode cX5_clear 12 = .ok (.putfield 51, 3) := by decide +kernel
theorem dX5_clear_15 : decode cX5_clear 15 = .ok (.aload_n 0, 1) := by decide +kernel
theorem dX5_clear_16 : decode cX5_clear 16 = .ok (.iconst 0, 1) := by decide +kernel
theorem dX5_clear_17 : decode cX5_clear 17 = .ok (.putfield 54, 3) := by decide +kernel
theorem dX5_clear_20 : decode cX5_clear 20 = .ok (.aload_n 0, 1) := by decide +kernel
theorem dX5_clear_21 : decode cX5_clear 21 = .ok (.iconst 0, 1) := by decide +kernel
theorem dX5_clear_22 : decode cX5_clear 22 = .ok (.putfield 57, 3) := by decide +kernel
theorem dX5_clear_25 : decode cX5_clear 25 = .ok (.aload_n 0, 1) := by decide +kernel
theorem dX5_clear_26 : decode cX5_clear 26 = .ok (.iconst 0, 1) := by decide +kernel
theorem dX5_clear_27 : decode cX5_clear 27 = .ok (.putfield 60, 3) := by decide +kernel
theorem dX5_clear_30 : decode cX5_clear 30 = .ok (.aload_n 0, 1) := by decide +kernel
theorem dX5_clear_31 : decode cX5_clear 31 = .ok (.getfield 40, 3) := by decide +kernel
theorem dX5_clear_34 : decode cX5_clear 34 = .ok (.getfield 63, 3) := by decide +kernel
theorem dX5_clear_37 : decode cX5_clear 37 = .ok (.bipush 50, 2) := by decide +kernel
theorem dX5_clear_39 : decode cX5_clear 39 = .ok (.invokestatic 66, 3) := by decide +kernel
theorem dX5_clear_42 : decode cX5_clear 42 = .ok (.aload_n 0, 1) := by decide +kernel
theorem dX5_clear_43 : decode cX5_clear 43 = .ok (.iconst 0, 1) := by decide +kernel
theorem dX5_clear_44 : decode cX5_clear 44 = .ok (.putfield 72, 3) := by decide +kernel
theorem dX5_clear_47 : decode cX5_clear 47 = .ok (.aload_n 0, 1) := by decide +kernel
theorem dX5_clear_48 : decode cX5_clear 48 = .ok (.iconst 0, 1) := by decide +kernel
theorem dX5_clear_49 : decode cX5_clear 49 = .ok (.putfield 76, 3) := by decide +kernel
theorem dX5_clear_52 : decode cX5_clear 52 = .ok (.aload_n 0, 1) := by decide +kernel
theorem dX5_clear_53 : decode cX5_clear 53 = .ok (.iconst 0, 1) := by decide +kernel
theorem dX5_clear_54 : decode cX5_clear 54 = .ok (.putfield 79, 3) := by decide +kernel
theorem dX5_clear_57 : decode cX5_clear 57 = .ok (.aload_n 0, 1) := by decide +kernel
theorem dX5_clear_58 : decode cX5_clear 58 = .ok (.getfield 27, 3) := by decide +kernel
theorem dX5_clear_61 : decode cX5_clear 61 = .ok (.iconst 0, 1) := by decide +kernel
theorem dX5_clear_62 : decode cX5_clear 62 = .ok (.putfield 82, 3) := by decide +kernel
theorem dX5_clear_65 : decode cX5_clear 65 = .ok (.aload_n 0, 1) := by decide +kernel
theorem dX5_clear_66 : decode cX5_clear 66 = .ok (.getfield 27, 3) := by decide +kernel
theorem dX5_clear_69 : decode cX5_clear 69 = .ok (.iconst 3, 1) := by decide +kernel
theorem dX5_clear_70 : decode cX5_clear 70 = .ok (.invokevirtual 85, 3) := by decide +kernel
theorem dX5_clear_73 : decode cX5_clear 73 = .ok (.aload_n 0, 1) := by decide +kernel
theorem dX5_clear_74 : decode cX5_clear 74 = .ok (.getfield 31, 3) := by decide +kernel
theorem dX5_clear_77 : decode cX5_clear 77 = .ok (.iconst 0, 1) := by decide +kernel
theorem dX5_clear_78 : decode cX5_clear 78 = .ok (.putfield 82, 3) := by decide +kernel
theorem dX5_clear_81 : decode cX5_clear 81 = .ok (.aload_n 0, 1) := by decide +kernel
theorem dX5_clear_82 : decode cX5_clear 82 = .ok (.getfield 31, 3) := by decide +kernel
theorem dX5_clear_85 : decode cX5_clear 85 = .ok (.bipush 6, 2) := by decide +kernel
theorem dX5_clear_87 : decode cX5_clear 87 = .ok (.invokevirtual 89, 3) := by decide +kernel
theorem dX5_clear_90 : decode cX5_clear 90 = .ok (.aload_n 0, 1) := by decide +kernel
theorem dX5_clear_91 : decode cX5_clear 91 = .ok (.getfield 31, 3) := by decide +kernel
theorem dX5_clear_94 : decode cX5_clear 94 = .ok (.iconst 1, 1) := by decide +kernel
theorem dX5_clear_95 : decode cX5_clear 95 = .ok (.invokevirtual 85, 3) := by decide +kernel
theorem dX5_clear_98 : decode cX5_clear 98 = .ok (.aload_n 0, 1) := by decide +kernel
theorem dX5_clear_99 : decode cX5_clear 99 = .ok (.getfield 31, 3) := by decide +kernel
theorem dX5_clear_102 : decode cX5_clear 102 = .ok (.bipush 43, 2) := by decide +kernel
theorem dX5_clear_104 : decode cX5_clear 104 = .ok (.invokevirtual 92, 3) := by decide +kernel
theorem dX5_clear_107 : decode cX5_clear 107 = .ok (.aload_n 0, 1) := by decide +kernel
theorem dX5_clear_108 : decode cX5_clear 108 = .ok (.getfield 34, 3) := by decide +kernel
theorem dX5_clear_111 : decode cX5_clear 111 = .ok (.iconst 0, 1) := by decide +kernel
theorem dX5_clear_112 : decode cX5_clear 112 = .ok (.putfield 82, 3) := by decide +kernel
theorem dX5_clear_115 : decode cX5_clear 115 = .ok (.aload_n 0, 1) := by decide +kernel
theorem dX5_clear_116 : decode cX5_clear 116 = .ok (.getfield 34, 3) := by decide +kernel
theorem dX5_clear_119 : decode cX5_clear 119 = .ok (.iconst 0, 1) := by decide +kernel
theorem dX5_clear_120 : decode cX5_clear 120 = .ok (.invokevirtual 85, 3) := by decide +kernel
theorem dX5_clear_123 : decode cX5_clear 123 = .ok (.return_, 1) := by decide +kernel
theorem dX5_cells_0 : decode cX5_cells 0 = .ok (.aload_n 0, 1) := by decide +kernel
theorem dX5_cells_1 : decode cX5_cells 1 = .ok (.getfield 44, 3) := by decide +kernel
theorem dX5_cells_4 : decode cX5_cells 4 = .ok (.aload_n 0, 1) := by decide +kernel
theorem dX5_cells_5 : decode cX5_cells 5 = .ok (.getfield 48, 3) := by decide +kernel
theorem dX5_cells_8 : decode cX5_cells 8 = .ok (.imul, 1) := by decide +kernel
theorem dX5_cells_9 : decode cX5_cells 9 = .ok (.ireturn, 1) := by decide +kernel
theorem dX5_cellAt_0 : decode cX5_cellAt 0 = .ok (.iload_n 1, 1) := by decide +kernel
theorem dX5_cellAt_1 : decode cX5_cellAt 1 = .ok (.ifCond .lt 23, 3) := by decide +kernel
theorem dX5_cellAt_4 : decode cX5_cellAt 4 = .ok (.iload_n 1, 1) := by decide +kernel
theorem dX5_cellAt_5 : decode cX5_cellAt 5 = .ok (.aload_n 0, 1) := by decide +kernel
theorem dX5_cellAt_6 : decode cX5_cellAt 6 = .ok (.getfield 44, 3) := by decide +kernel
theorem dX5_cellAt_9 : decode cX5_cellAt 9 = .ok (.if_icmp .ge 15, 3) := by decide +kernel
theorem dX5_cellAt_12 : decode cX5_cellAt 12 = .ok (.iload_n 2, 1) := by decide +kernel
theorem dX5_cellAt_13 : decode cX5_cellAt 13 = .ok (.ifCond .lt 11, 3) := by decide +kernel
theorem dX5_cellAt_16 : decode cX5_cellAt 16 = .ok (.iload_n 2, 1) := by decide +kernel
theorem dX5_cellAt_17 : decode cX5_cellAt 17 = .ok (.aload_n 0, 1) := by decide +kernel
theorem dX5_cellAt_18 : decode cX5_cellAt 18 = .ok (.getfield 48, 3) := by decide +kernel
theorem dX5_cellAt_21 : decode cX5_cellAt 21 = .ok (.if_icmp .lt 7, 3) := by decide +kernel
theorem dX5_cellAt_24 : decode cX5_cellAt 24 = .ok (.iconst (-1), 1) := by decide +kernel
theorem dX5_cellAt_25 : decode cX5_cellAt 25 = .ok (.goto 11, 3) := by decide +kernel
theorem dX5_cellAt_28 : decode cX5_cellAt 28 = .ok (.iload_n 2, 1) := by decide +kernel
theorem dX5_cellAt_29 : decode cX5_cellAt 29 = .ok (.aload_n 0, 1) := by decide +kernel
theorem dX5_cellAt_30 : decode cX5_cellAt 30 = .ok (.getfield 44, 3) := by decide +kernel
theorem dX5_cellAt_33 : decode cX5_cellAt 33 = .ok (.imul, 1) := by decide +kernel
theorem dX5_cellAt_34 : decode cX5_cellAt 34 = .ok (.iload_n 1, 1) := by decide +kernel
theorem dX5_cellAt_35 : decode cX5_cellAt 35 = .ok (.iadd, 1) := by decide +kernel
theorem dX5_cellAt_36 : decode cX5_cellAt 36 = .ok (.ireturn, 1) := by decide +kernel
theorem dX5_cellOf_0 : decode cX5_cellOf 0 = .ok (.iload_n 1, 1) := by decide +kernel
theorem dX5_cellOf_1 : decode cX5_cellOf 1 = .ok (.ifCond .ge 7, 3) := by decide +kernel
theorem dX5_cellOf_4 : decode cX5_cellOf 4 = .ok (.iconst (-1), 1) := by decide +kernel
theorem dX5_cellOf_5 : decode cX5_cellOf 5 = .ok (.goto 15, 3) := by decide +kernel
theorem dX5_cellOf_8 : decode cX5_cellOf 8 = .ok (.aload_n 0, 1) := by decide +kernel
theorem dX5_cellOf_9 : decode cX5_cellOf 9 = .ok (.iload_n 1, 1) := by decide +kernel
theorem dX5_cellOf_10 : decode cX5_cellOf 10 = .ok (.bipush 8, 2) := by decide +kernel
theorem dX5_cellOf_12 : decode cX5_cellOf 12 = .ok (.irem, 1) := by decide +kernel
theorem dX5_cellOf_13 : decode cX5_cellOf 13 = .ok (.iload_n 1, 1) := by decide +kernel
theorem dX5_cellOf_14 : decode cX5_cellOf 14 = .ok (.bipush 8, 2) := by decide +kernel
theorem dX5_cellOf_16 : decode cX5_cellOf 16 = .ok (.idiv, 1) := by decide +kernel
theorem dX5_cellOf_17 : decode cX5_cellOf 17 = .ok (.invokevirtual 95, 3) := by decide +kernel
theorem dX5_cellOf_20 : decode cX5_cellOf 20 = .ok (.ireturn, 1) := by decide +kernel
theorem dX5_numberOf_0 : decode cX5_numberOf 0 = .ok (.iload_n 1, 1) := by decide +kernel
theorem dX5_numberOf_1 : decode cX5_numberOf 1 = .ok (.ifCond .lt 11, 3) := by decide +kernel
theorem dX5_numberOf_4 : decode cX5_numberOf 4 = .ok (.aload_n 0, 1) := by decide +kernel
theorem dX5_numberOf_5 : decode cX5_numberOf 5 = .ok (.getfield 44, 3) := by decide +kernel
theorem dX5_numberOf_8 : decode cX5_numberOf 8 = .ok (.iconst 1, 1) := by decide +kernel
theorem dX5_numberOf_9 : decode cX5_numberOf 9 = .ok (.if_icmp .ge 7, 3) := by decide +kernel
theorem dX5_numberOf_12 : decode cX5_numberOf 12 = .ok (.iconst (-1), 1) := by decide +kernel
theorem dX5_numberOf_13 : decode cX5_numberOf 13 = .ok (.goto 19, 3) := by decide +kernel
theorem dX5_numberOf_16 : decode cX5_numberOf 16 = .ok (.iload_n 1, 1) := by decide +kernel
theorem dX5_numberOf_17 : decode cX5_numberOf 17 = .ok (.aload_n 0, 1) := by decide +kernel
theorem dX5_numberOf_18 : decode cX5_numberOf 18 = .ok (.getfield 44, 3) := by decide +kernel
theorem dX5_numberOf_21 : decode cX5_numberOf 21 = .ok (.idiv, 1) := by decide +kernel
theorem dX5_numberOf_22 : decode cX5_numberOf 22 = .ok (.bipush 8, 2) := by decide +kernel
theorem dX5_numberOf_24 : decode cX5_numberOf 24 = .ok (.imul, 1) := by decide +kernel
theorem dX5_numberOf_25 : decode cX5_numberOf 25 = .ok (.iload_n 1, 1) := by decide +kernel
theorem dX5_numberOf_26 : decode cX5_numberOf 26 = .ok (.aload_n 0, 1) := by decide +kernel
theorem dX5_numberOf_27 : decode cX5_numberOf 27 = .ok (.getfield 44, 3) := by decide +kernel
theorem dX5_numberOf_30 : decode cX5_numberOf 30 = .ok (.irem, 1) := by decide +kernel
theorem dX5_numberOf_31 : decode cX5_numberOf 31 = .ok (.iadd, 1) := by decide +kernel
theorem dX5_numberOf_32 : decode cX5_numberOf 32 = .ok (.ireturn, 1) := by decide +kernel
theorem dX5_nextTo_0 : decode cX5_nextTo 0 = .ok (.aload_n 0, 1) := by decide +kernel
theorem dX5_nextTo_1 : decode cX5_nextTo 1 = .ok (.getfield 44, 3) := by decide +kernel
theorem dX5_nextTo_4 : decode cX5_nextTo 4 = .ok (.iconst 1, 1) := by decide +kernel
theorem dX5_nextTo_5 : decode cX5_nextTo 5 = .ok (.if_icmp .ge 7, 3) := by decide +kernel
theorem dX5_nextTo_8 : decode cX5_nextTo 8 = .ok (.iconst 0, 1) := by decide +kernel
theorem dX5_nextTo_9 : decode cX5_nextTo 9 = .ok (.goto 9, 3) := by decide +kernel
theorem dX5_nextTo_12 : decode cX5_nextTo 12 = .ok (.iload_n 1, 1) := by decide +kernel
theorem dX5_nextTo_13 : decode cX5_nextTo 13 = .ok (.aload_n 0, 1) := by decide +kernel
theorem dX5_nextTo_14 : decode cX5_nextTo 14 = .ok (.getfield 44, 3) := by decide +kernel
theorem dX5_nextTo_17 : decode cX5_nextTo 17 = .ok (.irem, 1) := by decide +kernel
theorem dX5_nextTo_18 : decode cX5_nextTo 18 = .ok (.istore_n 3, 1) := by decide +kernel
theorem dX5_nextTo_19 : decode cX5_nextTo 19 = .ok (.iload_n 2, 1) := by decide +kernel
theorem dX5_nextTo_20 : decode cX5_nextTo 20 = .ok (.tableswitch 77 0 2 #[28, 47, 59], 28) := by decide +kernel
theorem dX5_nextTo_48 : decode cX5_nextTo 48 = .ok (.iload_n 1, 1) := by decide +kernel
theorem dX5_nextTo_49 : decode cX5_nextTo 49 = .ok (.aload_n 0, 1) := by decide +kernel
theorem dX5_nextTo_50 : decode cX5_nextTo 50 = .ok (.getfield 44, 3) := by decide +kernel
theorem dX5_nextTo_53 : decode cX5_nextTo 53 = .ok (.if_icmp .lt 12, 3) := by decide +kernel
theorem dX5_nextTo_56 : decode cX5_nextTo 56 = .ok (.iload_n 1, 1) := by decide +kernel
theorem dX5_nextTo_57 : decode cX5_nextTo 57 = .ok (.aload_n 0, 1) := by decide +kernel
theorem dX5_nextTo_58 : decode cX5_nextTo 58 = .ok (.getfield 44, 3) := by decide +kernel
theorem dX5_nextTo_61 : decode cX5_nextTo 61 = .ok (.isub, 1) := by decide +kernel
theorem dX5_nextTo_62 : decode cX5_nextTo 62 = .ok (.goto 4, 3) := by decide +kernel
theorem dX5_nextTo_65 : decode cX5_nextTo 65 = .ok (.iconst (-1), 1) := by decide +kernel
theorem dX5_nextTo_66 : decode cX5_nextTo 66 = .ok (.ireturn, 1) := by decide +kernel
theorem dX5_nextTo_67 : decode cX5_nextTo 67 = .ok (.iload_n 3, 1) := by decide +kernel
theorem dX5_nextTo_68 : decode cX5_nextTo 68 = .ok (.ifCond .le 9, 3) := by decide +kernel
theorem dX5_nextTo_71 : decode cX5_nextTo 71 = .ok (.iload_n 1, 1) := by decide +kernel
theorem dX5_nextTo_72 : decode cX5_nextTo 72 = .ok (.iconst 1, 1) := by decide +kernel
theorem dX5_nextTo_73 : decode cX5_nextTo 73 = .ok (.isub, 1) := by decide +kernel
theorem dX5_nextTo_74 : decode cX5_nextTo 74 = .ok (.goto 4, 3) := by decide +kernel
theorem dX5_nextTo_77 : decode cX5_nextTo 77 = .ok (.iconst (-1), 1) := by decide +kernel
theorem dX5_nextTo_78 : decode cX5_nextTo 78 = .ok (.ireturn, 1) := by decide +kernel
theorem dX5_nextTo_79 : decode cX5_nextTo 79 = .ok (.iload_n 3, 1) := by decide +kernel
theorem dX5_nextTo_80 : decode cX5_nextTo 80 = .ok (.iconst 1, 1) := by decide +kernel
theorem dX5_nextTo_81 : decode cX5_nextTo 81 = .ok (.iadd, 1) := by decide +kernel
theorem dX5_nextTo_82 : decode cX5_nextTo 82 = .ok (.aload_n 0, 1) := by decide +kernel
theorem dX5_nextTo_83 : decode cX5_nextTo 83 = .ok (.getfield 44, 3) := by decide +kernel
theorem dX5_nextTo_86 : decode cX5_nextTo 86 = .ok (.if_icmp .ge 9, 3) := by decide +kernel
theorem dX5_nextTo_89 : decode cX5_nextTo 89 = .ok (.iload_n 1, 1) := by decide +kernel
theorem dX5_nextTo_90 : decode cX5_nextTo 90 = .ok (.iconst 1, 1) := by decide +kernel
theorem dX5_nextTo_91 : decode cX5_nextTo 91 = .ok (.iadd, 1) := by decide +kernel
theorem dX5_nextTo_92 : decode cX5_nextTo 92 = .ok (.goto 4, 3) := by decide +kernel
theorem dX5_nextTo_95 : decode cX5_nextTo 95 = .ok (.iconst (-1), 1) := by decide +kernel
theorem dX5_nextTo_96 : decode cX5_nextTo 96 = .ok (.ireturn, 1) := by decide +kernel
theorem dX5_nextTo_97 : decode cX5_nextTo 97 = .ok (.iload_n 1, 1) := by decide +kernel
theorem dX5_nextTo_98 : decode cX5_nextTo 98 = .ok (.aload_n 0, 1) := by decide +kernel
theorem dX5_nextTo_99 : decode cX5_nextTo 99 = .ok (.getfield 44, 3) := by decide +kernel
theorem dX5_nextTo_102 : decode cX5_nextTo 102 = .ok (.iadd, 1) := by decide +kernel
theorem dX5_nextTo_103 : decode cX5_nextTo 103 = .ok (.aload_n 0, 1) := by decide +kernel
theorem dX5_nextTo_104 : decode cX5_nextTo 104 = .ok (.invokevirtual 99, 3) := by decide +kernel
theorem dX5_nextTo_107 : decode cX5_nextTo 107 = .ok (.if_icmp .ge 12, 3) := by decide +kernel
theorem dX5_nextTo_110 : decode cX5_nextTo 110 = .ok (.iload_n 1, 1) := by decide +kernel
theorem dX5_nextTo_111 : decode cX5_nextTo 111 = .ok (.aload_n 0, 1) := by decide +kernel
theorem dX5_nextTo_112 : decode cX5_nextTo 112 = .ok (.getfield 44, 3) := by decide +kernel
theorem dX5_nextTo_115 : decode cX5_nextTo 115 = .ok (.iadd, 1) := by decide +kernel
theorem dX5_nextTo_116 : decode cX5_nextTo 116 = .ok (.goto 4, 3) := by decide +kernel
theorem dX5_nextTo_119 : decode cX5_nextTo 119 = .ok (.iconst (-1), 1) := by decide +kernel
theorem dX5_nextTo_120 : decode cX5_nextTo 120 = .ok (.ireturn, 1) := by decide +kernel
theorem dX5_rowOf_0 : decode cX5_rowOf 0 = .ok (.aload_n 0, 1) := by decide +kernel
theorem dX5_rowOf_1 : decode cX5_rowOf 1 = .ok (.getfield 57, 3) := by decide +kernel
theorem dX5_rowOf_4 : decode cX5_rowOf 4 = .ok (.iconst 1, 1) := by decide +kernel
theorem dX5_rowOf_5 : decode cX5_rowOf 5 = .ok (.if_icmp .ge 7, 3) := by decide +kernel
theorem dX5_rowOf_8 : decode cX5_rowOf 8 = .ok (.iconst (-1), 1) := by decide +kernel
theorem dX5_rowOf_9 : decode cX5_rowOf 9 = .ok (.goto 9, 3) := by decide +kernel
theorem dX5_rowOf_12 : decode cX5_rowOf 12 = .ok (.iload_n 1, 1) := by decide +kernel
theorem dX5_rowOf_13 : decode cX5_rowOf 13 = .ok (.aload_n 0, 1) := by decide +kernel
theorem dX5_rowOf_14 : decode cX5_rowOf 14 = .ok (.getfield 57, 3) := by decide +kernel
theorem dX5_rowOf_17 : decode cX5_rowOf 17 = .ok (.irem, 1) := by decide +kernel
theorem dX5_rowOf_18 : decode cX5_rowOf 18 = .ok (.ireturn, 1) := by decide +kernel
theorem dX5_topicOf_0 : decode cX5_topicOf 0 = .ok (.iload_n 1, 1) := by decide +kernel
theorem dX5_topicOf_1 : decode cX5_topicOf 1 = .ok (.aload_n 0, 1) := by decide +kernel
theorem dX5_topicOf_2 : decode cX5_topicOf 2 = .ok (.getfield 9, 3) := by decide +kernel
theorem dX5_topicOf_5 : decode cX5_topicOf 5 = .ok (.aload_n 0, 1) := by decide +kernel
theorem dX5_topicOf_6 : decode cX5_topicOf 6 = .ok (.getfield 51, 3) := by decide +kernel
theorem dX5_topicOf_9 : decode cX5_topicOf 9 = .ok (.invokestatic 103, 3) := by decide +kernel
theorem dX5_topicOf_12 : decode cX5_topicOf 12 = .ok (.ireturn, 1) := by decide +kernel
theorem dX5_personOf_0 : decode cX5_personOf 0 = .ok (.iload_n 1, 1) := by decide +kernel
theorem dX5_personOf_1 : decode cX5_personOf 1 = .ok (.aload_n 0, 1) := by decide +kernel
theorem dX5_personOf_2 : decode cX5_personOf 2 = .ok (.getfield 15, 3) := by decide +kernel
theorem dX5_personOf_5 : decode cX5_personOf 5 = .ok (.aload_n 0, 1) := by decide +kernel
theorem dX5_personOf_6 : decode cX5_personOf 6 = .ok (.getfield 54, 3) := by decide +kernel
theorem dX5_personOf_9 : decode cX5_personOf 9 = .ok (.invokestatic 103, 3) := by decide +kernel
theorem dX5_personOf_12 : decode cX5_personOf 12 = .ok (.ireturn, 1) := by decide +kernel
theorem dX5_placeOf_0 : decode cX5_placeOf 0 = .ok (.iconst 0, 1) := by decide +kernel
theorem dX5_placeOf_1 : decode cX5_placeOf 1 = .ok (.istore_n 3, 1) := by decide +kernel
theorem dX5_placeOf_2 : decode cX5_placeOf 2 = .ok (.iload_n 3, 1) := by decide +kernel
theorem dX5_placeOf_3 : decode cX5_placeOf 3 = .ok (.iload_n 2, 1) := by decide +kernel
theorem dX5_placeOf_4 : decode cX5_placeOf 4 = .ok (.if_icmp .ge 24, 3) := by decide +kernel
theorem dX5_placeOf_7 : decode cX5_placeOf 7 = .ok (.iload_n 3, 1) := by decide +kernel
theorem dX5_placeOf_8 : decode cX5_placeOf 8 = .ok (.aload_n 1, 1) := by decide +kernel
theorem dX5_placeOf_9 : decode cX5_placeOf 9 = .ok (.arraylength, 1) := by decide +kernel
theorem dX5_placeOf_10 : decode cX5_placeOf 10 = .ok (.if_icmp .ge 18, 3) := by decide +kernel
theorem dX5_placeOf_13 : decode cX5_placeOf 13 = .ok (.aload_n 1, 1) := by decide +kernel
theorem dX5_placeOf_14 : decode cX5_placeOf 14 = .ok (.iload_n 3, 1) := by decide +kernel
theorem dX5_placeOf_15 : decode cX5_placeOf 15 = .ok (.iaload, 1) := by decide +kernel
theorem dX5_placeOf_16 : decode cX5_placeOf 16 = .ok (.iload_n 0, 1) := by decide +kernel
theorem dX5_placeOf_17 : decode cX5_placeOf 17 = .ok (.if_icmp .ne 5, 3) := by decide +kernel
theorem dX5_placeOf_20 : decode cX5_placeOf 20 = .ok (.iload_n 3, 1) := by decide +kernel
theorem dX5_placeOf_21 : decode cX5_placeOf 21 = .ok (.ireturn, 1) := by decide +kernel
theorem dX5_placeOf_22 : decode cX5_placeOf 22 = .ok (.iinc 3 1, 3) := by decide +kernel
theorem dX5_placeOf_25 : decode cX5_placeOf 25 = .ok (.goto (-23), 3) := by decide +kernel
theorem dX5_placeOf_28 : decode cX5_placeOf 28 = .ok (.iconst (-1), 1) := by decide +kernel
theorem dX5_placeOf_29 : decode cX5_placeOf 29 = .ok (.ireturn, 1) := by decide +kernel
theorem dX5_topicCounts_0 : decode cX5_topicCounts 0 = .ok (.aload_n 0, 1) := by decide +kernel
theorem dX5_topicCounts_1 : decode cX5_topicCounts 1 = .ok (.getfield 27, 3) := by decide +kernel
theorem dX5_topicCounts_4 : decode cX5_topicCounts 4 = .ok (.iconst 3, 1) := by decide +kernel
theorem dX5_topicCounts_5 : decode cX5_topicCounts 5 = .ok (.invokevirtual 107, 3) := by decide +kernel
theorem dX5_topicCounts_8 : decode cX5_topicCounts 8 = .ok (.ifCond .ne 25, 3) := by decide +kernel
theorem dX5_topicCounts_11 : decode cX5_topicCounts 11 = .ok (.aload_n 0, 1) := by decide +kernel
theorem dX5_topicCounts_12 : decode cX5_topicCounts 12 = .ok (.getfield 31, 3) := by decide +kernel
theorem dX5_topicCounts_15 : decode cX5_topicCounts 15 = .ok (.iconst 3, 1) := by decide +kernel
theorem dX5_topicCounts_16 : decode cX5_topicCounts 16 = .ok (.invokevirtual 107, 3) := by decide +kernel
theorem dX5_topicCounts_19 : decode cX5_topicCounts 19 = .ok (.ifCond .ne 14, 3) := by decide +kernel
theorem dX5_topicCounts_22 : decode cX5_topicCounts 22 = .ok (.aload_n 0, 1) := by decide +kernel
theorem dX5_topicCounts_23 : decode cX5_topicCounts 23 = .ok (.getfield 34, 3) := by decide +kernel
theorem dX5_topicCounts_26 : decode cX5_topicCounts 26 = .ok (.iconst 3, 1) := by decide +kernel
theorem dX5_topicCounts_27 : decode cX5_topicCounts 27 = .ok (.invokevirtual 107, 3) := by decide +kernel
theorem dX5_topicCounts_30 : decode cX5_topicCounts 30 = .ok (.ifCond .eq 7, 3) := by decide +kernel
theorem dX5_topicCounts_33 : decode cX5_topicCounts 33 = .ok (.iconst 1, 1) := by decide +kernel
theorem dX5_topicCounts_34 : decode cX5_topicCounts 34 = .ok (.goto 4, 3) := by decide +kernel
theorem dX5_topicCounts_37 : decode cX5_topicCounts 37 = .ok (.iconst 0, 1) := by decide +kernel
theorem dX5_topicCounts_38 : decode cX5_topicCounts 38 = .ok (.ireturn, 1) := by decide +kernel
theorem dX6_init_0 : decode cX6_init 0 = .ok (.aload_n 0, 1) := by decide +kernel
theorem dX6_init_1 : decode cX6_init 1 = .ok (.invokespecial 3, 3) := by decide +kernel
theorem dX6_init_4 : decode cX6_init 4 = .ok (.aload_n 0, 1) := by decide +kernel
theorem dX6_init_5 : decode cX6_init 5 = .ok (.new 9, 3) := by decide +kernel
theorem dX6_init_8 : decode cX6_init 8 = .ok (.dup, 1) := by decide +kernel
theorem dX6_init_9 : decode cX6_init 9 = .ok (.invokespecial 11, 3) := by decide +kernel
theorem dX6_init_12 : decode cX6_init 12 = .ok (.putfield 12, 3) := by decide +kernel
theorem dX6_init_15 : decode cX6_init 15 = .ok (.aload_n 0, 1) := by decide +kernel
theorem dX6_init_16 : decode cX6_init 16 = .ok (.aload_n 1, 1) := by decide +kernel
theorem dX6_init_17 : decode cX6_init 17 = .ok (.putfield 18, 3) := by decide +kernel
theorem dX6_init_20 : decode cX6_init 20 = .ok (.aload_n 0, 1) := by decide +kernel
theorem dX6_init_21 : decode cX6_init 21 = .ok (.aload_n 2, 1) := by decide +kernel
theorem dX6_init_22 : decode cX6_init 22 = .ok (.putfield 22, 3) := by decide +kernel
theorem dX6_init_25 : decode cX6_init 25 = .ok (.return_, 1) := by decide +kernel
theorem dX6_read_0 : decode cX6_read 0 = .ok (.aload_n 0, 1) := by decide +kernel
theorem dX6_read_1 : decode cX6_read 1 = .ok (.getfield 12, 3) := by decide +kernel
theorem dX6_read_4 : decode cX6_read 4 = .ok (.invokevirtual 26, 3) := by decide +kernel
theorem dX6_read_7 : decode cX6_read 7 = .ok (.aload_n 0, 1) := by decide +kernel
theorem dX6_read_8 : decode cX6_read 8 = .ok (.invokevirtual 29, 3) := by decide +kernel
theorem dX6_read_11 : decode cX6_read 11 = .ok (.ifCond .ne 5, 3) := by decide +kernel
theorem dX6_read_14 : decode cX6_read 14 = .ok (.iconst (-1), 1) := by decide +kernel
theorem dX6_read_15 : decode cX6_read 15 = .ok (.ireturn, 1) := by decide +kernel
theorem dX6_read_16 : decode cX6_read 16 = .ok (.iconst 1, 1) := by decide +kernel
theorem dX6_read_17 : decode cX6_read 17 = .ok (.istore_n 1, 1) := by decide +kernel
theorem dX6_read_18 : decode cX6_read 18 = .ok (.iload_n 1, 1) := by decide +kernel
theorem dX6_read_19 : decode cX6_read 19 = .ok (.bipush 80, 2) := by decide +kernel
theorem dX6_read_21 : decode cX6_read 21 = .ok (.if_icmp .ge 41, 3) := by decide +kernel
theorem dX6_read_24 : decode cX6_read 24 = .ok (.aload_n 0, 1) := by decide +kernel
theorem dX6_read_25 : decode cX6_read 25 = .ok (.getfield 18, 3) := by decide +kernel
theorem dX6_read_28 : decode cX6_read 28 = .ok (.getfield 33, 3) := by decide +kernel
theorem dX6_read_31 : decode cX6_read 31 = .ok (.iconst (-1), 1) := by decide +kernel
theorem dX6_read_32 : decode cX6_read 32 = .ok (.if_icmp .eq 30, 3) := by decide +kernel
theorem dX6_read_35 : decode cX6_read 35 = .ok (.aload_n 0, 1) := by decide +kernel
theorem dX6_read_36 : decode cX6_read 36 = .ok (.invokevirtual 39, 3) := by decide +kernel
theorem dX6_read_39 : decode cX6_read 39 = .ok (.ifCond .eq 15, 3) := by decide +kernel
theorem dX6_read_42 : decode cX6_read 42 = .ok (.aload_n 0, 1) := by decide +kernel
theorem dX6_read_43 : decode cX6_read 43 = .ok (.getfield 18, 3) := by decide +kernel
theorem dX6_read_46 : decode cX6_read 46 = .ok (.bipush 59, 2) := by decide +kernel
theorem dX6_read_48 : decode cX6_read 48 = .ok (.invokevirtual 42, 3) := by decide +kernel
theorem dX6_read_51 : decode cX6_read 51 = .ok (.ifCond .ne 5, 3) := by decide +kernel
theorem dX6_read_54 : decode cX6_read 54 = .ok (.iconst (-1), 1) := by decide +kernel
theorem dX6_read_55 : decode cX6_read 55 = .ok (.ireturn, 1) := by decide +kernel
theorem dX6_read_56 : decode cX6_read 56 = .ok (.iinc 1 1, 3) := by decide +kernel
theorem dX6_read_59 : decode cX6_read 59 = .ok (.goto (-41), 3) := by decide +kernel
theorem dX6_read_62 : decode cX6_read 62 = .ok (.aload_n 0, 1) := by decide +kernel
theorem dX6_read_63 : decode cX6_read 63 = .ok (.getfield 18, 3) := by decide +kernel
theorem dX6_read_66 : decode cX6_read 66 = .ok (.getfield 33, 3) := by decide +kernel
theorem dX6_read_69 : decode cX6_read 69 = .ok (.iconst (-1), 1) := by decide +kernel
theorem dX6_read_70 : decode cX6_read 70 = .ok (.if_icmp .eq 19, 3) := by decide +kernel
theorem dX6_read_73 : decode cX6_read 73 = .ok (.aload_n 0, 1) := by decide +kernel
theorem dX6_read_74 : decode cX6_read 74 = .ok (.getfield 18, 3) := by decide +kernel
theorem dX6_read_77 : decode cX6_read 77 = .ok (.iconst 5, 1) := by decide +kernel
theorem dX6_read_78 : decode cX6_read 78 = .ok (.aload_n 0, 1) := by decide +kernel
theorem dX6_read_79 : decode cX6_read 79 = .ok (.getfield 18, 3) := by decide +kernel
theorem dX6_read_82 : decode cX6_read 82 = .ok (.getfield 46, 3) := by decide +kernel
theorem dX6_read_85 : decode cX6_read 85 = .ok (.invokevirtual 49, 3) := by decide +kernel
theorem dX6_read_88 : decode cX6_read 88 = .ok (.pop, 1) := by decide +kernel
theorem dX6_read_89 : decode cX6_read 89 = .ok (.iload_n 1, 1) := by decide +kernel
theorem dX6_read_90 : decode cX6_read 90 = .ok (.ireturn, 1) := by decide +kernel
theorem dX6_readPlain_0 : decode cX6_readPlain 0 = .ok (.aload_n 0, 1) := by decide +kernel
theorem dX6_readPlain_1 : decode cX6_readPlain 1 = .ok (.getfield 18, 3) := by decide +kernel
theorem dX6_readPlain_4 : decode cX6_readPlain 4 = .ok (.iconst 0, 1) := by decide +kernel
theorem dX6_readPlain_5 : decode cX6_readPlain 5 = .ok (.invokevirtual 53, 3) := by decide +kernel
theorem dX6_readPlain_8 : decode cX6_readPlain 8 = .ok (.ifCond .ne 5, 3) := by decide +kernel
theorem dX6_readPlain_11 : decode cX6_readPlain 11 = .ok (.iconst 0, 1) := by decide +kernel
theorem dX6_readPlain_12 : decode cX6_readPlain 12 = .ok (.ireturn, 1) := by decide +kernel
theorem dX6_readPlain_13 : decode cX6_readPlain 13 = .ok (.aload_n 0, 1) := by decide +kernel
theorem dX6_readPlain_14 : decode cX6_readPlain 14 = .ok (.getfield 18, 3) := by decide +kernel
theorem dX6_readPlain_17 : decode cX6_readPlain 17 = .ok (.iconst 3, 1) := by decide +kernel
theorem dX6_readPlain_18 : decode cX6_readPlain 18 = .ok (.bipush 7, 2) := by decide +kernel
theorem dX6_readPlain_20 : decode cX6_readPlain 20 = .ok (.invokevirtual 56, 3) := by decide +kernel
theorem dX6_readPlain_23 : decode cX6_readPlain 23 = .ok (.istore_n 1, 1) := by decide +kernel
theorem dX6_readPlain_24 : decode cX6_readPlain 24 = .ok (.iload_n 1, 1) := by decide +kernel
theorem dX6_readPlain_25 : decode cX6_readPlain 25 = .ok (.iconst (-1), 1) := by decide +kernel
theorem dX6_readPlain_26 : decode cX6_readPlain 26 = .ok (.if_icmp .eq 14, 3) := by decide +kernel
theorem dX6_readPlain_29 : decode cX6_readPlain 29 = .ok (.aload_n 0, 1) := by decide +kernel
theorem dX6_readPlain_30 : decode cX6_readPlain 30 = .ok (.getfield 18, 3) := by decide +kernel
theorem dX6_readPlain_33 : decode cX6_readPlain 33 = .ok (.iconst 1, 1) := by decide +kernel
theorem dX6_readPlain_34 : decode cX6_readPlain 34 = .ok (.invokevirtual 53, 3) := by decide +kernel
theorem dX6_readPlain_37 : decode cX6_readPlain 37 = .ok (.ifCond .ne 5, 3) := by decide +kernel
theorem dX6_readPlain_40 : decode cX6_readPlain 40 = .ok (.iconst 0, 1) := by decide +kernel
theorem dX6_readPlain_41 : decode cX6_readPlain 41 = .ok (.ireturn, 1) := by decide +kernel
theorem dX6_readPlain_42 : decode cX6_readPlain 42 = .ok (.aload_n 0, 1) := by decide +kernel
theorem dX6_readPlain_43 : decode cX6_readPlain 43 = .ok (.getfield 18, 3) := by decide +kernel
theorem dX6_readPlain_46 : decode cX6_readPlain 46 = .ok (.iconst 3, 1) := by decide +kernel
theorem dX6_readPlain_47 : decode cX6_readPlain 47 = .ok (.bipush 7, 2) := by decide +kernel
theorem dX6_readPlain_49 : decode cX6_readPlain 49 = .ok (.invokevirtual 56, 3) := by decide +kernel
theorem dX6_readPlain_52 : decode cX6_readPlain 52 = .ok (.istore_n 2, 1) := by decide +kernel
theorem dX6_readPlain_53 : decode cX6_readPlain 53 = .ok (.iload_n 2, 1) := by decide +kernel
theorem dX6_readPlain_54 : decode cX6_readPlain 54 = .ok (.iconst (-1), 1) := by decide +kernel
theorem dX6_readPlain_55 : decode cX6_readPlain 55 = .ok (.if_icmp .eq 15, 3) := by decide +kernel
theorem dX6_readPlain_58 : decode cX6_readPlain 58 = .ok (.aload_n 0, 1) := by decide +kernel
theorem dX6_readPlain_59 : decode cX6_readPlain 59 = .ok (.getfield 18, 3) := by decide +kernel
theorem dX6_readPlain_62 : decode cX6_readPlain 62 = .ok (.bipush 59, 2) := by decide +kernel
theorem dX6_readPlain_64 : decode cX6_readPlain 64 = .ok (.invokevirtual 42, 3) := by decide +kernel
theorem dX6_readPlain_67 : decode cX6_readPlain 67 = .ok (.ifCond .ne 5, 3) := by decide +kernel
theorem dX6_readPlain_70 : decode cX6_readPlain 70 = .ok (.iconst 0, 1) := by decide +kernel
theorem dX6_readPlain_71 : decode cX6_readPlain 71 = .ok (.ireturn, 1) := by decide +kernel
theorem dX6_readPlain_72 : decode cX6_readPlain 72 = .ok (.aload_n 0, 1) := by decide +kernel
theorem dX6_readPlain_73 : decode cX6_readPlain 73 = .ok (.getfield 12, 3) := by decide +kernel
theorem dX6_readPlain_76 : decode cX6_readPlain 76 = .ok (.iload_n 1, 1) := by decide +kernel
theorem dX6_readPlain_77 : decode cX6_readPlain 77 = .ok (.putfield 60, 3) := by decide +kernel
theorem dX6_readPlain_80 : decode cX6_readPlain 80 = .ok (.aload_n 0, 1) := by decide +kernel
theorem dX6_readPlain_81 : decode cX6_readPlain 81 = .ok (.getfield 12, 3) := by decide +kernel
theorem dX6_readPlain_84 : decode cX6_readPlain 84 = .ok (.iload_n 2, 1) := by decide +kernel
theorem dX6_readPlain_85 : decode cX6_readPlain 85 = .ok (.putfield 63, 3) := by decide +kernel
theorem dX6_readPlain_88 : decode cX6_readPlain 88 = .ok (.iconst 1, 1) := by decide +kernel
theorem dX6_readPlain_89 : decode cX6_readPlain 89 = .ok (.ireturn, 1) := by decide +kernel
theorem dX6_readStatement_0 : decode cX6_readStatement 0 = .ok (.aload_n 0, 1) := by decide +kernel
theorem dX6_readStatement_1 : decode cX6_readStatement 1 = .ok (.getfield 18, 3) := by decide +kernel
theorem dX6_readStatement_4 : decode cX6_readStatement 4 = .ok (.getfield 33, 3) := by decide +kernel
theorem dX6_readStatement_7 : decode cX6_readStatement 7 = .ok (.bipush (-2), 2) := by decide +kernel
theorem dX6_readStatement_9 : decode cX6_readStatement 9 = .ok (.if_icmp .ne 13, 3) := by decide +kernel
theorem dX6_readStatement_12 : decode cX6_readStatement 12 = .ok (.aload_n 0, 1) := by decide +kernel
theorem dX6_readStatement_13 : decode cX6_readStatement 13 = .ok (.getfield 18, 3) := by decide +kernel
theorem dX6_readStatement_16 : decode cX6_readStatement 16 = .ok (.getfield 66, 3) := by decide +kernel
theorem dX6_readStatement_19 : decode cX6_readStatement 19 = .ok (.goto 4, 3) := by decide +kernel
theorem dX6_readStatement_22 : decode cX6_readStatement 22 = .ok (.iconst (-1), 1) := by decide +kernel
theorem dX6_readStatement_23 : decode cX6_readStatement 23 = .ok (.istore_n 1, 1) := by decide +kernel
theorem dX6_readStatement_24 : decode cX6_readStatement 24 = .ok (.aload_n 0, 1) := by decide +kernel
theorem dX6_readStatement_25 : decode cX6_readStatement 25 = .ok (.iload_n 1, 1) := by decide +kernel
theorem dX6_readStatement_26 : decode cX6_readStatement 26 = .ok (.invokevirtual 69, 3) := by decide +kernel
theorem dX6_readStatement_29 : decode cX6_readStatement 29 = .ok (.ifCond .eq 19, 3) := by decide +kernel
theorem dX6_readStatement_32 : decode cX6_readStatement 32 = .ok (.aload_n 0, 1) := by decide +kernel
theorem dX6_readStatement_33 : decode cX6_readStatement 33 = .ok (.getfield 18, 3) := by decide +kernel
theorem dX6_readStatement_36 : decode cX6_readStatement 36 = .ok (.iconst 5, 1) := by decide +kernel
theorem dX6_readStatement_37 : decode cX6_readStatement 37 = .ok (.aload_n 0, 1) := by decide +kernel
theorem dX6_readStatement_38 : decode cX6_readStatement 38 = .ok (.getfield 18, 3) := by decide +kernel
theorem dX6_readStatement_41 : decode cX6_readStatement 41 = .ok (.getfield 46, 3) := by decide +kernel
theorem dX6_readStatement_44 : decode cX6_readStatement 44 = .ok (.invokevirtual 49, 3) := by decide +kernel
theorem dX6_readStatement_47 : decode cX6_readStatement 47 = .ok (.ireturn, 1) := by decide +kernel
theorem dX6_readStatement_48 : decode cX6_readStatement 48 = .ok (.iload_n 1, 1) := by decide +kernel
theorem dX6_readStatement_49 : decode cX6_readStatement 49 = .ok (.tableswitch 180 2 13 #[63, 68, 73, 180, 180, 78, 180, 83, 88, 117, 146, 175], 63) := by decide +kernel
theorem dX6_readStatement_112 : decode cX6_readStatement 112 = .ok (.aload_n 0, 1) := by decide +kernel
theorem dX6_readStatement_113 : decode cX6_readStatement 113 = .ok (.invokevirtual 72, 3) := by decide +kernel
theorem dX6_readStatement_116 : decode cX6_readStatement 116 = .ok (.ireturn, 1) := by decide +kernel
theorem dX6_readStatement_117 : decode cX6_readStatement 117 = .ok (.aload_n 0, 1) := by decide +kernel
theorem dX6_readStatement_118 : decode cX6_readStatement 118 = .ok (.invokevirtual 75, 3) := by decide +kernel
theorem dX6_readStatement_121 : decode cX6_readStatement 121 = .ok (.ireturn, 1) := by decide +kernel
theorem dX6_readStatement_122 : decode cX6_readStatement 122 = .ok (.aload_n 0, 1) := by decide +kernel
theorem dX6_readStatement_123 : decode cX6_readStatement 123 = .ok (.invokevirtual 78, 3) := by decide +kernel
theorem dX6_readStatement_126 : decode cX6_readStatement 126 = .ok (.ireturn, 1) := by decide +kernel
theorem dX6_readStatement_127 : decode cX6_readStatement 127 = .ok (.aload_n 0, 1) := by decide +kernel
theorem dX6_readStatement_128 : decode cX6_readStatement 128 = .ok (.invokevirtual 81, 3) := by decide +kernel
theorem dX6_readStatement_131 : decode cX6_readStatement 131 = .ok (.ireturn, 1) := by decide +kernel
theorem dX6_readStatement_132 : decode cX6_readStatement 132 = .ok (.aload_n 0, 1) := by decide +kernel
theorem dX6_readStatement_133 : decode cX6_readStatement 133 = .ok (.invokevirtual 84, 3) := by decide +kernel
theorem dX6_readStatement_136 : decode cX6_readStatement 136 = .ok (.ireturn, 1) := by decide +kernel
theorem dX6_readStatement_137 : decode cX6_readStatement 137 = .ok (.aload_n 0, 1) := by decide +kernel
theorem dX6_readStatement_138 : decode cX6_readStatement 138 = .ok (.getfield 12, 3) := by decide +kernel
theorem dX6_readStatement_141 : decode cX6_readStatement 141 = .ok (.iconst 1, 1) := by decide +kernel
theorem dX6_readStatement_142 : decode cX6_readStatement 142 = .ok (.putfield 87, 3) := by decide +kernel
theorem dX6_readStatement_145 : decode cX6_readStatement 145 = .ok (.aload_n 0, 1) := by decide +kernel
theorem dX6_readStatement_146 : decode cX6_readStatement 146 = .ok (.aload_n 0, 1) := by decide +kernel
theorem dX6_readStatement_147 : decode cX6_readStatement 147 = .ok (.getfield 12, 3) := by decide +kernel
theorem dX6_readStatement_150 : decode cX6_readStatement 150 = .ok (.getfield 91, 3) := by decide +kernel
theorem dX6_readStatement_153 : decode cX6_readStatement 153 = .ok (.iconst 0, 1) := by decide +kernel
theorem dX6_readStatement_154 : decode cX6_readStatement 154 = .ok (.invokevirtual 97, 3) := by decide +kernel
theorem dX6_readStatement_157 : decode cX6_readStatement 157 = .ok (.aload_n 0, 1) := by decide +kernel
theorem dX6_readStatement_158 : decode cX6_readStatement 158 = .ok (.getfield 22, 3) := by decide +kernel
theorem dX6_readStatement_161 : decode cX6_readStatement 161 = .ok (.iconst 0, 1) := by decide +kernel
theorem dX6_readStatement_162 : decode cX6_readStatement 162 = .ok (.invokevirtual 101, 3) := by decide +kernel
theorem dX6_readStatement_165 : decode cX6_readStatement 165 = .ok (.ireturn, 1) := by decide +kernel
theorem dX6_readStatement_166 : decode cX6_readStatement 166 = .ok (.aload_n 0, 1) := by decide +kernel
theorem dX6_readStatement_167 : decode cX6_readStatement 167 = .ok (.getfield 12, 3) := by decide +kernel
theorem dX6_readStatement_170 : decode cX6_readStatement 170 = .ok (.iconst 1, 1) := by decide +kernel
theorem dX6_readStatement_171 : decode cX6_readStatement 171 = .ok (.putfield 104, 3) := by decide +kernel
theorem dX6_readStatement_174 : decode cX6_readStatement 174 = .ok (.aload_n 0, 1) := by decide +kernel
theorem dX6_readStatement_175 : decode cX6_readStatement 175 = .ok (.aload_n 0, 1) := by decide +kernel
theorem dX6_readStatement_176 : decode cX6_readStatement 176 = .ok (.getfield 12, 3) := by decide +kernel
theorem dX6_readStatement_179 : decode cX6_readStatement 179 = .ok (.getfield 107, 3) := by decide +kernel
theorem dX6_readStatement_182 : decode cX6_readStatement 182 = .ok (.iconst 1, 1) := by decide +kernel
theorem dX6_readStatement_183 : decode cX6_readStatement 183 = .ok (.invokevirtual 97, 3) := by decide +kernel
theorem dX6_readStatement_186 : decode cX6_readStatement 186 = .ok (.aload_n 0, 1) := by decide +kernel
theorem dX6_readStatement_187 : decode cX6_readStatement 187 = .ok (.getfield 22, 3) := by decide +kernel
theorem dX6_readStatement_190 : decode cX6_readStatement 190 = .ok (.iconst 0, 1) := by decide +kernel
theorem dX6_readStatement_191 : decode cX6_readStatement 191 = .ok (.invokevirtual 101, 3) := by decide +kernel
theorem dX6_readStatement_194 : decode cX6_readStatement 194 = .ok (.ireturn, 1) := by decide +kernel
theorem dX6_readStatement_195 : decode cX6_readStatement 195 = .ok (.aload_n 0, 1) := by decide +kernel
theorem dX6_readStatement_196 : decode cX6_readStatement 196 = .ok (.getfield 12, 3) := by decide +kernel
theorem dX6_readStatement_199 : decode cX6_readStatement 199 = .ok (.iconst 1, 1) := by decide +kernel
theorem dX6_readStatement_200 : decode cX6_readStatement 200 = .ok (.putfield 110, 3) := by decide +kernel
theorem dX6_readStatement_203 : decode cX6_readStatement 203 = .ok (.aload_n 0, 1) := by decide +kernel
theorem dX6_readStatement_204 : decode cX6_readStatement 204 = .ok (.aload_n 0, 1) := by decide +kernel
theorem dX6_readStatement_205 : decode cX6_readStatement 205 = .ok (.getfield 12, 3) := by decide +kernel
theorem dX6_readStatement_208 : decode cX6_readStatement 208 = .ok (.getfield 113, 3) := by decide +kernel
theorem dX6_readStatement_211 : decode cX6_readStatement 211 = .ok (.iconst 1, 1) := by decide +kernel
theorem dX6_readStatement_212 : decode cX6_readStatement 212 = .ok (.invokevirtual 97, 3) := by decide +kernel
theorem dX6_readStatement_215 : decode cX6_readStatement 215 = .ok (.aload_n 0, 1) := by decide +kernel
theorem dX6_readStatement_216 : decode cX6_readStatement 216 = .ok (.getfield 22, 3) := by decide +kernel
theorem dX6_readStatement_219 : decode cX6_readStatement 219 = .ok (.iconst 0, 1) := by decide +kernel
theorem dX6_readStatement_220 : decode cX6_readStatement 220 = .ok (.invokevirtual 116, 3) := by decide +kernel
theorem dX6_readStatement_223 : decode cX6_readStatement 223 = .ok (.ireturn, 1) := by decide +kernel
theorem dX6_readStatement_224 : decode cX6_readStatement 224 = .ok (.aload_n 0, 1) := by decide +kernel
theorem dX6_readStatement_225 : decode cX6_readStatement 225 = .ok (.invokevirtual 119, 3) := by decide +kernel
theorem dX6_readStatement_228 : decode cX6_readStatement 228 = .ok (.ireturn, 1) := by decide +kernel
theorem dX6_readStatement_229 : decode cX6_readStatement 229 = .ok (.aload_n 0, 1) := by decide +kernel
theorem dX6_readStatement_230 : decode cX6_readStatement 230 = .ok (.getfield 18, 3) := by decide +kernel
theorem dX6_readStatement_233 : decode cX6_readStatement 233 = .ok (.iconst 1, 1) := by decide +kernel
theorem dX6_readStatement_234 : decode cX6_readStatement 234 = .ok (.aload_n 0, 1) := by decide +kernel
theorem dX6_readStatement_235 : decode cX6_readStatement 235 = .ok (.getfield 18, 3) := by decide +kernel
theorem dX6_readStatement_238 : decode cX6_readStatement 238 = .ok (.getfield 46, 3) := by decide +kernel
theorem dX6_readStatement_241 : decode cX6_readStatement 241 = .ok (.invokevirtual 49, 3) := by decide +kernel
theorem dX6_readStatement_244 : decode cX6_readStatement 244 = .ok (.ireturn, 1) := by decide +kernel
theorem dX6_isOneTooMany_0 : decode cX6_isOneTooMany 0 = .ok (.iload_n 1, 1) := by decide +kernel
theorem dX6_isOneTooMany_1 : decode cX6_isOneTooMany 1 = .ok (.tableswitch 132 3 12 #[55, 72, 132, 132, 132, 132, 90, 108, 116, 124], 55) := by decide +kernel
theorem dX6_isOneTooMany_56 : decode cX6_isOneTooMany 56 = .ok (.aload_n 0, 1) := by decide +kernel
theorem dX6_isOneTooMany_57 : decode cX6_isOneTooMany 57 = .ok (.getfield 12, 3) := by decide +kernel
theorem dX6_isOneTooMany_60 : decode cX6_isOneTooMany 60 = .ok (.getfield 122, 3) := by decide +kernel
theorem dX6_isOneTooMany_63 : decode cX6_isOneTooMany 63 = .ok (.iconst 5, 1) := by decide +kernel
theorem dX6_isOneTooMany_64 : decode cX6_isOneTooMany 64 = .ok (.if_icmp .lt 7, 3) := by decide +kernel
theorem dX6_isOneTooMany_67 : decode cX6_isOneTooMany 67 = .ok (.iconst 1, 1) := by decide +kernel
theorem dX6_isOneTooMany_68 : decode cX6_isOneTooMany 68 = .ok (.goto 4, 3) := by decide +kernel
theorem dX6_isOneTooMany_71 : decode cX6_isOneTooMany 71 = .ok (.iconst 0, 1) := by decide +kernel
theorem dX6_isOneTooMany_72 : decode cX6_isOneTooMany 72 = .ok (.ireturn, 1) := by decide +kernel
theorem dX6_isOneTooMany_73 : decode cX6_isOneTooMany 73 = .ok (.aload_n 0, 1) := by decide +kernel
theorem dX6_isOneTooMany_74 : decode cX6_isOneTooMany 74 = .ok (.getfield 12, 3) := by decide +kernel
theorem dX6_isOneTooMany_77 : decode cX6_isOneTooMany 77 = .ok (.getfield 125, 3) := by decide +kernel
theorem dX6_isOneTooMany_80 : decode cX6_isOneTooMany 80 = .ok (.bipush 7, 2) := by decide +kernel
theorem dX6_isOneTooMany_82 : decode cX6_isOneTooMany 82 = .ok (.if_icmp .lt 7, 3) := by decide +kernel
theorem dX6_isOneTooMany_85 : decode cX6_isOneTooMany 85 = .ok (.iconst 1, 1) := by decide +kernel
theorem dX6_isOneTooMany_86 : decode cX6_isOneTooMany 86 = .ok (.goto 4, 3) := by decide +kernel
theorem dX6_isOneTooMany_89 : decode cX6_isOneTooMany 89 = .ok (.iconst 0, 1) := by decide +kernel
theorem dX6_isOneTooMany_90 : decode cX6_isOneTooMany 90 = .ok (.ireturn, 1) := by decide +kernel
theorem dX6_isOneTooMany_91 : decode cX6_isOneTooMany 91 = .ok (.aload_n 0, 1) := by decide +kernel
theorem dX6_isOneTooMany_92 : decode cX6_isOneTooMany 92 = .ok (.getfield 12, 3) := by decide +kernel
theorem dX6_isOneTooMany_95 : decode cX6_isOneTooMany 95 = .ok (.getfield 128, 3) := by decide +kernel
theorem dX6_isOneTooMany_98 : decode cX6_isOneTooMany 98 = .ok (.bipush 12, 2) := by decide +kernel
theorem dX6_isOneTooMany_100 : decode cX6_isOneTooMany 100 = .ok (.if_icmp .lt 7, 3) := by decide +kernel
theorem dX6_isOneTooMany_103 : decode cX6_isOneTooMany 103 = .ok (.iconst 1, 1) := by decide +kernel
theorem dX6_isOneTooMany_104 : decode cX6_isOneTooMany 104 = .ok (.goto 4, 3) := by decide +kernel
theorem dX6_isOneTooMany_107 : decode cX6_isOneTooMany 107 = .ok (.iconst 0, 1) := by decide +kernel
theorem dX6_isOneTooMany_108 : decode cX6_isOneTooMany 108 = .ok (.ireturn, 1) := by decide +kernel
theorem dX6_isOneTooMany_109 : decode cX6_isOneTooMany 109 = .ok (.aload_n 0, 1) := by decide +kernel
theorem dX6_isOneTooMany_110 : decode cX6_isOneTooMany 110 = .ok (.getfield 12, 3) := by decide +kernel
theorem dX6_isOneTooMany_113 : decode cX6_isOneTooMany 113 = .ok (.getfield 87, 3) := by decide +kernel
theorem dX6_isOneTooMany_116 : decode cX6_isOneTooMany 116 = .ok (.ireturn, 1) := by decide +kernel
theorem dX6_isOneTooMany_117 : decode cX6_isOneTooMany 117 = .ok (.aload_n 0, 1) := by decide +kernel
theorem dX6_isOneTooMany_118 : decode cX6_isOneTooMany 118 = .ok (.getfield 12, 3) := by decide +kernel
theorem dX6_isOneTooMany_121 : decode cX6_isOneTooMany 121 = .ok (.getfield 104, 3) := by decide +kernel
theorem dX6_isOneTooMany_124 : decode cX6_isOneTooMany 124 = .ok (.ireturn, 1) := by decide +kernel
theorem dX6_isOneTooMany_125 : decode cX6_isOneTooMany 125 = .ok (.aload_n 0, 1) := by decide +kernel
theorem dX6_isOneTooMany_126 : decode cX6_isOneTooMany 126 = .ok (.getfield 12, 3) := by decide +kernel
theorem dX6_isOneTooMany_129 : decode cX6_isOneTooMany 129 = .ok (.getfield 110, 3) := by decide +kernel
theorem dX6_isOneTooMany_132 : decode cX6_isOneTooMany 132 = .ok (.ireturn, 1) := by decide +kernel
theorem dX6_isOneTooMany_133 : decode cX6_isOneTooMany 133 = .ok (.iconst 0, 1) := by decide +kernel
theorem dX6_isOneTooMany_134 : decode cX6_isOneTooMany 134 = .ok (.ireturn, 1) := by decide +kernel
theorem dX6_readHigh_0 : decode cX6_readHigh 0 = .ok (.aload_n 0, 1) := by decide +kernel
theorem dX6_readHigh_1 : decode cX6_readHigh 1 = .ok (.getfield 18, 3) := by decide +kernel
theorem dX6_readHigh_4 : decode cX6_readHigh 4 = .ok (.invokevirtual 131, 3) := by decide +kernel
theorem dX6_readHigh_7 : decode cX6_readHigh 7 = .ok (.aload_n 0, 1) := by decide +kernel
theorem dX6_readHigh_8 : decode cX6_readHigh 8 = .ok (.getfield 18, 3) := by decide +kernel
theorem dX6_readHigh_11 : decode cX6_readHigh 11 = .ok (.iconst 0, 1) := by decide +kernel
theorem dX6_readHigh_12 : decode cX6_readHigh 12 = .ok (.aload_n 0, 1) := by decide +kernel
theorem dX6_readHigh_13 : decode cX6_readHigh 13 = .ok (.getfield 12, 3) := by decide +kernel
theorem dX6_readHigh_16 : decode cX6_readHigh 16 = .ok (.getfield 60, 3) := by decide +kernel
theorem dX6_readHigh_19 : decode cX6_readHigh 19 = .ok (.iconst 1, 1) := by decide +kernel
theorem dX6_readHigh_20 : decode cX6_readHigh 20 = .ok (.isub, 1) := by decide +kernel
theorem dX6_readHigh_21 : decode cX6_readHigh 21 = .ok (.invokevirtual 56, 3) := by decide +kernel
theorem dX6_readHigh_24 : decode cX6_readHigh 24 = .ok (.istore_n 1, 1) := by decide +kernel
theorem dX6_readHigh_25 : decode cX6_readHigh 25 = .ok (.iload_n 1, 1) := by decide +kernel
theorem dX6_readHigh_26 : decode cX6_readHigh 26 = .ok (.iconst (-1), 1) := by decide +kernel
theorem dX6_readHigh_27 : decode cX6_readHigh 27 = .ok (.if_icmp .ne 5, 3) := by decide +kernel
theorem dX6_readHigh_30 : decode cX6_readHigh 30 = .ok (.iconst 0, 1) := by decide +kernel
theorem dX6_readHigh_31 : decode cX6_readHigh 31 = .ok (.ireturn, 1) := by decide +kernel
theorem dX6_readHigh_32 : decode cX6_readHigh 32 = .ok (.aload_n 0, 1) := by decide +kernel
theorem dX6_readHigh_33 : decode cX6_readHigh 33 = .ok (.getfield 18, 3) := by decide +kernel
theorem dX6_readHigh_36 : decode cX6_readHigh 36 = .ok (.iconst 0, 1) := by decide +kernel
theorem dX6_readHigh_37 : decode cX6_readHigh 37 = .ok (.aload_n 0, 1) := by decide +kernel
theorem dX6_readHigh_38 : decode cX6_readHigh 38 = .ok (.getfield 12, 3) := by decide +kernel
theorem dX6_readHigh_41 : decode cX6_readHigh 41 = .ok (.getfield 63, 3) := by decide +kernel
theorem dX6_readHigh_44 : decode cX6_readHigh 44 = .ok (.iconst 1, 1) := by decide +kernel
theorem dX6_readHigh_45 : decode cX6_readHigh 45 = .ok (.isub, 1) := by decide +kernel
theorem dX6_readHigh_46 : decode cX6_readHigh 46 = .ok (.invokevirtual 56, 3) := by decide +kernel
theorem dX6_readHigh_49 : decode cX6_readHigh 49 = .ok (.istore_n 2, 1) := by decide +kernel
theorem dX6_readHigh_50 : decode cX6_readHigh 50 = .ok (.iload_n 2, 1) := by decide +kernel
theorem dX6_readHigh_51 : decode cX6_readHigh 51 = .ok (.iconst (-1), 1) := by decide +kernel
theorem dX6_readHigh_52 : decode cX6_readHigh 52 = .ok (.if_icmp .ne 5, 3) := by decide +kernel
theorem dX6_readHigh_55 : decode cX6_readHigh 55 = .ok (.iconst 0, 1) := by decide +kernel
theorem dX6_readHigh_56 : decode cX6_readHigh 56 = .ok (.ireturn, 1) := by decide +kernel
theorem dX6_readHigh_57 : decode cX6_readHigh 57 = .ok (.aload_n 0, 1) := by decide +kernel
theorem dX6_readHigh_58 : decode cX6_readHigh 58 = .ok (.getfield 18, 3) := by decide +kernel
theorem dX6_readHigh_61 : decode cX6_readHigh 61 = .ok (.iconst 0, 1) := by decide +kernel
theorem dX6_readHigh_62 : decode cX6_readHigh 62 = .ok (.bipush 99, 2) := by decide +kernel
theorem dX6_readHigh_64 : decode cX6_readHigh 64 = .ok (.invokevirtual 56, 3) := by decide +kernel
theorem dX6_readHigh_67 : decode cX6_readHigh 67 = .ok (.istore_n 3, 1) := by decide +kernel
theorem dX6_readHigh_68 : decode cX6_readHigh 68 = .ok (.aload_n 0, 1) := by decide +kernel
theorem dX6_readHigh_69 : decode cX6_readHigh 69 = .ok (.getfield 12, 3) := by decide +kernel
theorem dX6_readHigh_72 : decode cX6_readHigh 72 = .ok (.iload_n 1, 1) := by decide +kernel
theorem dX6_readHigh_73 : decode cX6_readHigh 73 = .ok (.iload_n 2, 1) := by decide +kernel
theorem dX6_readHigh_74 : decode cX6_readHigh 74 = .ok (.invokevirtual 134, 3) := by decide +kernel
theorem dX6_readHigh_77 : decode cX6_readHigh 77 = .ok (.istore 4, 2) := by decide +kernel
theorem dX6_readHigh_79 : decode cX6_readHigh 79 = .ok (.iload_n 3, 1) := by decide +kernel
theorem dX6_readHigh_80 : decode cX6_readHigh 80 = .ok (.iconst (-1), 1) := by decide +kernel
theorem dX6_readHigh_81 : decode cX6_readHigh 81 = .ok (.if_icmp .eq 9, 3) := by decide +kernel
theorem dX6_readHigh_84 : decode cX6_readHigh 84 = .ok (.iload 4, 2) := by decide +kernel
theorem dX6_readHigh_86 : decode cX6_readHigh 86 = .ok (.iconst (-1), 1) := by decide +kernel
theorem dX6_readHigh_87 : decode cX6_readHigh 87 = .ok (.if_icmp .ne 5, 3) := by decide +kernel
theorem dX6_readHigh_90 : decode cX6_readHigh 90 = .ok (.iconst 0, 1) := by decide +kernel
theorem dX6_readHigh_91 : decode cX6_readHigh 91 = .ok (.ireturn, 1) := by decide +kernel
theorem dX6_readHigh_92 : decode cX6_readHigh 92 = .ok (.aload_n 0, 1) := by decide +kernel
theorem dX6_readHigh_93 : decode cX6_readHigh 93 = .ok (.getfield 12, 3) := by decide +kernel
theorem dX6_readHigh_96 : decode cX6_readHigh 96 = .ok (.getfield 137, 3) := by decide +kernel
theorem dX6_readHigh_99 : decode cX6_readHigh 99 = .ok (.getfield 140, 3) := by decide +kernel
theorem dX6_readHigh_102 : decode cX6_readHigh 102 = .ok (.iload 4, 2) := by decide +kernel
theorem dX6_readHigh_104 : decode cX6_readHigh 104 = .ok (.iload_n 3, 1) := by decide +kernel
theorem dX6_readHigh_105 : decode cX6_readHigh 105 = .ok (.iastore, 1) := by decide +kernel
theorem dX6_readHigh_106 : decode cX6_readHigh 106 = .ok (.iconst 1, 1) := by decide +kernel
theorem dX6_readHigh_107 : decode cX6_readHigh 107 = .ok (.ireturn, 1) := by decide +kernel
theorem dX6_isNew_0 : decode cX6_isNew 0 = .ok (.iload_n 1, 1) := by decide +kernel
theorem dX6_isNew_1 : decode cX6_isNew 1 = .ok (.iconst (-1), 1) := by decide +kernel
theorem dX6_isNew_2 : decode cX6_isNew 2 = .ok (.if_icmp .ne 5, 3) := by decide +kernel
theorem dX6_isNew_5 : decode cX6_isNew 5 = .ok (.iconst 0, 1) := by decide +kernel
theorem dX6_isNew_6 : decode cX6_isNew 6 = .ok (.ireturn, 1) := by decide +kernel
theorem dX6_isNew_7 : decode cX6_isNew 7 = .ok (.aload_n 0, 1) := by decide +kernel
theorem dX6_isNew_8 : decode cX6_isNew 8 = .ok (.getfield 12, 3) := by decide +kernel
theorem dX6_isNew_11 : decode cX6_isNew 11 = .ok (.iload_n 1, 1) := by decide +kernel
theorem dX6_isNew_12 : decode cX6_isNew 12 = .ok (.invokevirtual 146, 3) := by decide +kernel
theorem dX6_isNew_15 : decode cX6_isNew 15 = .ok (.iconst (-1), 1) := by decide +kernel
theorem dX6_isNew_16 : decode cX6_isNew 16 = .ok (.if_icmp .ne 15, 3) := by decide +kernel
theorem dX6_isNew_19 : decode cX6_isNew 19 = .ok (.aload_n 0, 1) := by decide +kernel
theorem dX6_isNew_20 : decode cX6_isNew 20 = .ok (.getfield 12, 3) := by decide +kernel
theorem dX6_isNew_23 : decode cX6_isNew 23 = .ok (.iload_n 1, 1) := by decide +kernel
theorem dX6_isNew_24 : decode cX6_isNew 24 = .ok (.invokevirtual 150, 3) := by decide +kernel
theorem dX6_isNew_27 : decode cX6_isNew 27 = .ok (.iconst (-1), 1) := by decide +kernel
theorem dX6_isNew_28 : decode cX6_isNew 28 = .ok (.if_icmp .eq 19, 3) := by decide +kernel
theorem dX6_isNew_31 : decode cX6_isNew 31 = .ok (.aload_n 0, 1) := by decide +kernel
theorem dX6_isNew_32 : decode cX6_isNew 32 = .ok (.getfield 18, 3) := by decide +kernel
theorem dX6_isNew_35 : decode cX6_isNew 35 = .ok (.iconst 3, 1) := by decide +kernel
theorem dX6_isNew_36 : decode cX6_isNew 36 = .ok (.aload_n 0, 1) := by decide +kernel
theorem dX6_isNew_37 : decode cX6_isNew 37 = .ok (.getfield 18, 3) := by decide +kernel
theorem dX6_isNew_40 : decode cX6_isNew 40 = .ok (.getfield 153, 3) := by decide +kernel
theorem dX6_isNew_43 : decode cX6_isNew 43 = .ok (.invokevirtual 49, 3) := by decide +kernel
theorem dX6_isNew_46 : decode cX6_isNew 46 = .ok (.ireturn, 1) := by decide +kernel
theorem dX6_isNew_47 : decode cX6_isNew 47 = .ok (.iconst 1, 1) := by decide +kernel
theorem dX6_isNew_48 : decode cX6_isNew 48 = .ok (.ireturn, 1) := by decide +kernel
theorem dX6_readTopic_0 : decode cX6_readTopic 0 = .ok (.aload_n 0, 1) := by decide +kernel
theorem dX6_readTopic_1 : decode cX6_readTopic 1 = .ok (.getfield 18, 3) := by decide +kernel
theorem dX6_readTopic_4 : decode cX6_readTopic 4 = .ok (.invokevirtual 131, 3) := by decide +kernel
theorem dX6_readTopic_7 : decode cX6_readTopic 7 = .ok (.aload_n 0, 1) := by decide +kernel
theorem dX6_readTopic_8 : decode cX6_readTopic 8 = .ok (.getfield 18, 3) := by decide +kernel
theorem dX6_readTopic_11 : decode cX6_readTopic 11 = .ok (.invokevirtual 156, 3) := by decide +kernel
theorem dX6_readTopic_14 : decode cX6_readTopic 14 = .ok (.istore_n 1, 1) := by decide +kernel
theorem dX6_readTopic_15 : decode cX6_readTopic 15 = .ok (.aload_n 0, 1) := by decide +kernel
theorem dX6_readTopic_16 : decode cX6_readTopic 16 = .ok (.iload_n 1, 1) := by decide +kernel
theorem dX6_readTopic_17 : decode cX6_readTopic 17 = .ok (.invokevirtual 160, 3) := by decide +kernel
theorem dX6_readTopic_20 : decode cX6_readTopic 20 = .ok (.ifCond .ne 5, 3) := by decide +kernel
theorem dX6_readTopic_23 : decode cX6_readTopic 23 = .ok (.iconst 0, 1) := by decide +kernel
theorem dX6_readTopic_24 : decode cX6_readTopic 24 = .ok (.ireturn, 1) := by decide +kernel
theorem dX6_readTopic_25 : decode cX6_readTopic 25 = .ok (.aload_n 0, 1) := by decide +kernel
theorem dX6_readTopic_26 : decode cX6_readTopic 26 = .ok (.getfield 12, 3) := by decide +kernel
theorem dX6_readTopic_29 : decode cX6_readTopic 29 = .ok (.getfield 163, 3) := by decide +kernel
theorem dX6_readTopic_32 : decode cX6_readTopic 32 = .ok (.aload_n 0, 1) := by decide +kernel
theorem dX6_readTopic_33 : decode cX6_readTopic 33 = .ok (.getfield 12, 3) := by decide +kernel
theorem dX6_readTopic_36 : decode cX6_readTopic 36 = .ok (.getfield 122, 3) := by decide +kernel
theorem dX6_readTopic_39 : decode cX6_readTopic 39 = .ok (.iload_n 1, 1) := by decide +kernel
theorem dX6_readTopic_40 : decode cX6_readTopic 40 = .ok (.iastore, 1) := by decide +kernel
theorem dX6_readTopic_41 : decode cX6_readTopic 41 = .ok (.aload_n 0, 1) := by decide +kernel
theorem dX6_readTopic_42 : decode cX6_readTopic 42 = .ok (.getfield 12, 3) := by decide +kernel
theorem dX6_readTopic_45 : decode cX6_readTopic 45 = .ok (.dup, 1) := by decide +kernel
theorem dX6_readTopic_46 : decode cX6_readTopic 46 = .ok (.getfield 122, 3) := by decide +kernel
theorem dX6_readTopic_49 : decode cX6_readTopic 49 = .ok (.iconst 1, 1) := by decide +kernel
theorem dX6_readTopic_50 : decode cX6_readTopic 50 = .ok (.iadd, 1) := by decide +kernel
theorem dX6_readTopic_51 : decode cX6_readTopic 51 = .ok (.putfield 122, 3) := by decide +kernel
theorem dX6_readTopic_54 : decode cX6_readTopic 54 = .ok (.iconst 1, 1) := by decide +kernel
theorem dX6_readTopic_55 : decode cX6_readTopic 55 = .ok (.ireturn, 1) := by decide +kernel
theorem dX6_readPerson_0 : decode cX6_readPerson 0 = .ok (.aload_n 0, 1) := by decide +kernel
theorem dX6_readPerson_1 : decode cX6_readPerson 1 = .ok (.getfield 18, 3) := by decide +kernel
theorem dX6_readPerson_4 : decode cX6_readPerson 4 = .ok (.invokevirtual 131, 3) := by decide +kernel
theorem dX6_readPerson_7 : decode cX6_readPerson 7 = .ok (.aload_n 0, 1) := by decide +kernel
theorem dX6_readPerson_8 : decode cX6_readPerson 8 = .ok (.getfield 18, 3) := by decide +kernel
theorem dX6_readPerson_11 : decode cX6_readPerson 11 = .ok (.invokevirtual 156, 3) := by decide +kernel
theorem dX6_readPerson_14 : decode cX6_readPerson 14 = .ok (.istore_n 1, 1) := by decide +kernel
theorem dX6_readPerson_15 : decode cX6_readPerson 15 = .ok (.aload_n 0, 1) := by decide +kernel
theorem dX6_readPerson_16 : decode cX6_readPerson 16 = .ok (.iload_n 1, 1) := by decide +kernel
theorem dX6_readPerson_17 : decode cX6_readPerson 17 = .ok (.invokevirtual 160, 3) := by decide +kernel
theorem dX6_readPerson_20 : decode cX6_readPerson 20 = .ok (.ifCond .eq 14, 3) := by decide +kernel
theorem dX6_readPerson_23 : decode cX6_readPerson 23 = .ok (.aload_n 0, 1) := by decide +kernel
theorem dX6_readPerson_24 : decode cX6_readPerson 24 = .ok (.getfield 18, 3) := by decide +kernel
theorem dX6_readPerson_27 : decode cX6_readPerson 27 = .ok (.iconst 5, 1) := by decide +kernel
theorem dX6_readPerson_28 : decode cX6_readPerson 28 = .ok (.invokevirtual 53, 3) := by decide +kernel
theorem dX6_readPerson_31 : decode cX6_readPerson 31 = .ok (.ifCond .ne 5, 3) := by decide +kernel
theorem dX6_readPerson_34 : decode cX6_readPerson 34 = .ok (.iconst 0, 1) := by decide +kernel
theorem dX6_readPerson_35 : decode cX6_readPerson 35 = .ok (.ireturn, 1) := by decide +kernel
theorem dX6_readPerson_36 : decode cX6_readPerson 36 = .ok (.aload_n 0, 1) := by decide +kernel
theorem dX6_readPerson_37 : decode cX6_readPerson 37 = .ok (.getfield 18, 3) := by decide +kernel
theorem dX6_readPerson_40 : decode cX6_readPerson 40 = .ok (.iconst 0, 1) := by decide +kernel
theorem dX6_readPerson_41 : decode cX6_readPerson 41 = .ok (.aload_n 0, 1) := by decide +kernel
theorem dX6_readPerson_42 : decode cX6_readPerson 42 = .ok (.getfield 12, 3) := by decide +kernel
theorem dX6_readPerson_45 : decode cX6_readPerson 45 = .ok (.getfield 60, 3) := by decide +kernel
theorem dX6_readPerson_48 : decode cX6_readPerson 48 = .ok (.iconst 1, 1) := by decide +kernel
theorem dX6_readPerson_49 : decode cX6_readPerson 49 = .ok (.isub, 1) := by decide +kernel
theorem dX6_readPerson_50 : decode cX6_readPerson 50 = .ok (.invokevirtual 56, 3) := by decide +kernel
theorem dX6_readPerson_53 : decode cX6_readPerson 53 = .ok (.istore_n 2, 1) := by decide +kernel
theorem dX6_readPerson_54 : decode cX6_readPerson 54 = .ok (.iload_n 2, 1) := by decide +kernel
theorem dX6_readPerson_55 : decode cX6_readPerson 55 = .ok (.iconst (-1), 1) := by decide +kernel
theorem dX6_readPerson_56 : decode cX6_readPerson 56 = .ok (.if_icmp .ne 5, 3) := by decide +kernel
theorem dX6_readPerson_59 : decode cX6_readPerson 59 = .ok (.iconst 0, 1) := by decide +kernel
theorem dX6_readPerson_60 : decode cX6_readPerson 60 = .ok (.ireturn, 1) := by decide +kernel
theorem dX6_readPerson_61 : decode cX6_readPerson 61 = .ok (.aload_n 0, 1) := by decide +kernel
theorem dX6_readPerson_62 : decode cX6_readPerson 62 = .ok (.getfield 18, 3) := by decide +kernel
theorem dX6_readPerson_65 : decode cX6_readPerson 65 = .ok (.iconst 0, 1) := by decide +kernel
theorem dX6_readPerson_66 : decode cX6_readPerson 66 = .ok (.aload_n 0, 1) := by decide +kernel
theorem dX6_readPerson_67 : decode cX6_readPerson 67 = .ok (.getfield 12, 3) := by decide +kernel
theorem dX6_readPerson_70 : decode cX6_readPerson 70 = .ok (.getfield 63, 3) := by decide +kernel
theorem dX6_readPerson_73 : decode cX6_readPerson 73 = .ok (.iconst 1, 1) := by decide +kernel
theorem dX6_readPerson_74 : decode cX6_readPerson 74 = .ok (.isub, 1) := by decide +kernel
theorem dX6_readPerson_75 : decode cX6_readPerson 75 = .ok (.invokevirtual 56, 3) := by decide +kernel
theorem dX6_readPerson_78 : decode cX6_readPerson 78 = .ok (.istore_n 3, 1) := by decide +kernel
theorem dX6_readPerson_79 : decode cX6_readPerson 79 = .ok (.iload_n 3, 1) := by decide +kernel
theorem dX6_readPerson_80 : decode cX6_readPerson 80 = .ok (.iconst (-1), 1) := by decide +kernel
theorem dX6_readPerson_81 : decode cX6_readPerson 81 = .ok (.if_icmp .ne 5, 3) := by decide +kernel
theorem dX6_readPerson_84 : decode cX6_readPerson 84 = .ok (.iconst 0, 1) := by decide +kernel
theorem dX6_readPerson_85 : decode cX6_readPerson 85 = .ok (.ireturn, 1) := by decide +kernel
theorem dX6_readPerson_86 : decode cX6_readPerson 86 = .ok (.aload_n 0, 1) := by decide +kernel
theorem dX6_readPerson_87 : decode cX6_readPerson 87 = .ok (.getfield 12, 3) := by decide +kernel
theorem dX6_readPerson_90 : decode cX6_readPerson 90 = .ok (.getfield 137, 3) := by decide +kernel
theorem dX6_readPerson_93 : decode cX6_readPerson 93 = .ok (.iload_n 2, 1) := by decide +kernel
theorem dX6_readPerson_94 : decode cX6_readPerson 94 = .ok (.iload_n 3, 1) := by decide +kernel
theorem dX6_readPerson_95 : decode cX6_readPerson 95 = .ok (.aload_n 0, 1) := by decide +kernel
theorem dX6_readPerson_96 : decode cX6_readPerson 96 = .ok (.getfield 12, 3) := by decide +kernel
theorem dX6_readPerson_99 : decode cX6_readPerson 99 = .ok (.getfield 125, 3) := by decide +kernel
theorem dX6_readPerson_102 : decode cX6_readPerson 102 = .ok (.invokevirtual 166, 3) := by decide +kernel
theorem dX6_readPerson_105 : decode cX6_readPerson 105 = .ok (.ifCond .eq 19, 3) := by decide +kernel
theorem dX6_readPerson_108 : decode cX6_readPerson 108 = .ok (.aload_n 0, 1) := by decide +kernel
theorem dX6_readPerson_109 : decode cX6_readPerson 109 = .ok (.getfield 18, 3) := by decide +kernel
theorem dX6_readPerson_112 : decode cX6_readPerson 112 = .ok (.iconst 2, 1) := by decide +kernel
theorem dX6_readPerson_113 : decode cX6_readPerson 113 = .ok (.aload_n 0, 1) := by decide +kernel
theorem dX6_readPerson_114 : decode cX6_readPerson 114 = .ok (.getfield 18, 3) := by decide +kernel
theorem dX6_readPerson_117 : decode cX6_readPerson 117 = .ok (.getfield 153, 3) := by decide +kernel
theorem dX6_readPerson_120 : decode cX6_readPerson 120 = .ok (.invokevirtual 49, 3) := by decide +kernel
theorem dX6_readPerson_123 : decode cX6_readPerson 123 = .ok (.ireturn, 1) := by decide +kernel
theorem dX6_readPerson_124 : decode cX6_readPerson 124 = .ok (.aload_n 0, 1) := by decide +kernel
theorem dX6_readPerson_125 : decode cX6_readPerson 125 = .ok (.getfield 18, 3) := by decide +kernel
theorem dX6_readPerson_128 : decode cX6_readPerson 128 = .ok (.bipush 6, 2) := by decide +kernel
theorem dX6_readPerson_130 : decode cX6_readPerson 130 = .ok (.invokevirtual 53, 3) := by decide +kernel
theorem dX6_readPerson_133 : decode cX6_readPerson 133 = .ok (.ifCond .eq 16, 3) := by decide +kernel
theorem dX6_readPerson_136 : decode cX6_readPerson 136 = .ok (.aload_n 0, 1) := by decide +kernel
theorem dX6_readPerson_137 : decode cX6_readPerson 137 = .ok (.getfield 18, 3) := by decide +kernel
theorem dX6_readPerson_140 : decode cX6_readPerson 140 = .ok (.iconst 0, 1) := by decide +kernel
theorem dX6_readPerson_141 : decode cX6_readPerson 141 = .ok (.bipush 9, 2) := by decide +kernel
theorem dX6_readPerson_143 : decode cX6_readPerson 143 = .ok (.invokevirtual 56, 3) := by decide +kernel
theorem dX6_readPerson_146 : decode cX6_readPerson 146 = .ok (.goto 4, 3) := by decide +kernel
theorem dX6_readPerson_149 : decode cX6_readPerson 149 = .ok (.iconst (-1), 1) := by decide +kernel
theorem dX6_readPerson_150 : decode cX6_readPerson 150 = .ok (.istore 4, 2) := by decide +kernel
theorem dX6_readPerson_152 : decode cX6_readPerson 152 = .ok (.iload 4, 2) := by decide +kernel
theorem dX6_readPerson_154 : decode cX6_readPerson 154 = .ok (.iconst (-1), 1) := by decide +kernel
theorem dX6_readPerson_155 : decode cX6_readPerson 155 = .ok (.if_icmp .ne 5, 3) := by decide +kernel
theorem dX6_readPerson_158 : decode cX6_readPerson 158 = .ok (.iconst 0, 1) := by decide +kernel
theorem dX6_readPerson_159 : decode cX6_readPerson 159 = .ok (.ireturn, 1) := by decide +kernel
theorem dX6_readPerson_160 : decode cX6_readPerson 160 = .ok (.aload_n 0, 1) := by decide +kernel
theorem dX6_readPerson_161 : decode cX6_readPerson 161 = .ok (.getfield 12, 3) := by decide +kernel
theorem dX6_readPerson_164 : decode cX6_readPerson 164 = .ok (.getfield 170, 3) := by decide +kernel
theorem dX6_readPerson_167 : decode cX6_readPerson 167 = .ok (.aload_n 0, 1) := by decide +kernel
theorem dX6_readPerson_168 : decode cX6_readPerson 168 = .ok (.getfield 12, 3) := by decide +kernel
theorem dX6_readPerson_171 : decode cX6_readPerson 171 = .ok (.getfield 125, 3) := by decide +kernel
theorem dX6_readPerson_174 : decode cX6_readPerson 174 = .ok (.iload_n 1, 1) := by decide +kernel
theorem dX6_readPerson_175 : decode cX6_readPerson 175 = .ok (.iastore, 1) := by decide +kernel
theorem dX6_readPerson_176 : decode cX6_readPerson 176 = .ok (.aload_n 0, 1) := by decide +kernel
theorem dX6_readPerson_177 : decode cX6_readPerson 177 = .ok (.getfield 12, 3) := by decide +kernel
theorem dX6_readPerson_180 : decode cX6_readPerson 180 = .ok (.getfield 137, 3) := by decide +kernel
theorem dX6_readPerson_183 : decode cX6_readPerson 183 = .ok (.getfield 173, 3) := by decide +kernel
theorem dX6_readPerson_186 : decode cX6_readPerson 186 = .ok (.aload_n 0, 1) := by decide +kernel
theorem dX6_readPerson_187 : decode cX6_readPerson 187 = .ok (.getfield 12, 3) := by decide +kernel
theorem dX6_readPerson_190 : decode cX6_readPerson 190 = .ok (.getfield 125, 3) := by decide +kernel
theorem dX6_readPerson_193 : decode cX6_readPerson 193 = .ok (.iload_n 2, 1) := by decide +kernel
theorem dX6_readPerson_194 : decode cX6_readPerson 194 = .ok (.iastore, 1) := by decide +kernel
theorem dX6_readPerson_195 : decode cX6_readPerson 195 = .ok (.aload_n 0, 1) := by decide +kernel
theorem dX6_readPerson_196 : decode cX6_readPerson 196 = .ok (.getfield 12, 3) := by decide +kernel
theorem dX6_readPerson_199 : decode cX6_readPerson 199 = .ok (.getfield 137, 3) := by decide +kernel
theorem dX6_readPerson_202 : decode cX6_readPerson 202 = .ok (.getfield 176, 3) := by decide +kernel
theorem dX6_readPerson_205 : decode cX6_readPerson 205 = .ok (.aload_n 0, 1) := by decide +kernel
theorem dX6_readPerson_206 : decode cX6_readPerson 206 = .ok (.getfield 12, 3) := by decide +kernel
theorem dX6_readPerson_209 : decode cX6_readPerson 209 = .ok (.getfield 125, 3) := by decide +kernel
theorem dX6_readPerson_212 : decode cX6_readPerson 212 = .ok (.iload_n 3, 1) := by decide +kernel
theorem dX6_readPerson_213 : decode cX6_readPerson 213 = .ok (.iastore, 1) := by decide +kernel
theorem dX6_readPerson_214 : decode cX6_readPerson 214 = .ok (.aload_n 0, 1) := by decide +kernel
theorem dX6_readPerson_215 : decode cX6_readPerson 215 = .ok (.getfield 12, 3) := by decide +kernel
theorem dX6_readPerson_218 : decode cX6_readPerson 218 = .ok (.getfield 137, 3) := by decide +kernel
theorem dX6_readPerson_221 : decode cX6_readPerson 221 = .ok (.getfield 179, 3) := by decide +kernel
theorem dX6_readPerson_224 : decode cX6_readPerson 224 = .ok (.aload_n 0, 1) := by decide +kernel
theorem dX6_readPerson_225 : decode cX6_readPerson 225 = .ok (.getfield 12, 3) := by decide +kernel
theorem dX6_readPerson_228 : decode cX6_readPerson 228 = .ok (.getfield 125, 3) := by decide +kernel
theorem dX6_readPerson_231 : decode cX6_readPerson 231 = .ok (.iload 4, 2) := by decide +kernel
theorem dX6_readPerson_233 : decode cX6_readPerson 233 = .ok (.iastore, 1) := by decide +kernel
theorem dX6_readPerson_234 : decode cX6_readPerson 234 = .ok (.aload_n 0, 1) := by decide +kernel
theorem dX6_readPerson_235 : decode cX6_readPerson 235 = .ok (.getfield 12, 3) := by decide +kernel
theorem dX6_readPerson_238 : decode cX6_readPerson 238 = .ok (.getfield 137, 3) := by decide +kernel
theorem dX6_readPerson_241 : decode cX6_readPerson 241 = .ok (.getfield 182, 3) := by decide +kernel
theorem dX6_readPerson_244 : decode cX6_readPerson 244 = .ok (.aload_n 0, 1) := by decide +kernel
theorem dX6_readPerson_245 : decode cX6_readPerson 245 = .ok (.getfield 12, 3) := by decide +kernel
theorem dX6_readPerson_248 : decode cX6_readPerson 248 = .ok (.getfield 125, 3) := by decide +kernel
theorem dX6_readPerson_251 : decode cX6_readPerson 251 = .ok (.iconst 0, 1) := by decide +kernel
theorem dX6_readPerson_252 : decode cX6_readPerson 252 = .ok (.iastore, 1) := by decide +kernel
theorem dX6_readPerson_253 : decode cX6_readPerson 253 = .ok (.aload_n 0, 1) := by decide +kernel
theorem dX6_readPerson_254 : decode cX6_readPerson 254 = .ok (.getfield 12, 3) := by decide +kernel
theorem dX6_readPerson_257 : decode cX6_readPerson 257 = .ok (.dup, 1) := by decide +kernel
theorem dX6_readPerson_258 : decode cX6_readPerson 258 = .ok (.getfield 125, 3) := by decide +kernel
theorem dX6_readPerson_261 : decode cX6_readPerson 261 = .ok (.iconst 1, 1) := by decide +kernel
theorem dX6_readPerson_262 : decode cX6_readPerson 262 = .ok (.iadd, 1) := by decide +kernel
theorem dX6_readPerson_263 : decode cX6_readPerson 263 = .ok (.putfield 125, 3) := by decide +kernel
theorem dX6_readPerson_266 : decode cX6_readPerson 266 = .ok (.iconst 1, 1) := by decide +kernel
theorem dX6_readPerson_267 : decode cX6_readPerson 267 = .ok (.ireturn, 1) := by decide +kernel
theorem dX6_asPerson_0 : decode cX6_asPerson 0 = .ok (.aload_n 0, 1) := by decide +kernel
theorem dX6_asPerson_1 : decode cX6_asPerson 1 = .ok (.getfield 12, 3) := by decide +kernel
theorem dX6_asPerson_4 : decode cX6_asPerson 4 = .ok (.iload_n 1, 1) := by decide +kernel
theorem dX6_asPerson_5 : decode cX6_asPerson 5 = .ok (.invokevirtual 150, 3) := by decide +kernel
theorem dX6_asPerson_8 : decode cX6_asPerson 8 = .ok (.istore_n 2, 1) := by decide +kernel
theorem dX6_asPerson_9 : decode cX6_asPerson 9 = .ok (.iload_n 2, 1) := by decide +kernel
theorem dX6_asPerson_10 : decode cX6_asPerson 10 = .ok (.iconst (-1), 1) := by decide +kernel
theorem dX6_asPerson_11 : decode cX6_asPerson 11 = .ok (.if_icmp .ne 19, 3) := by decide +kernel
theorem dX6_asPerson_14 : decode cX6_asPerson 14 = .ok (.aload_n 0, 1) := by decide +kernel
theorem dX6_asPerson_15 : decode cX6_asPerson 15 = .ok (.getfield 18, 3) := by decide +kernel
theorem dX6_asPerson_18 : decode cX6_asPerson 18 = .ok (.iconst 3, 1) := by decide +kernel
theorem dX6_asPerson_19 : decode cX6_asPerson 19 = .ok (.aload_n 0, 1) := by decide +kernel
theorem dX6_asPerson_20 : decode cX6_asPerson 20 = .ok (.getfield 18, 3) := by decide +kernel
theorem dX6_asPerson_23 : decode cX6_asPerson 23 = .ok (.getfield 153, 3) := by decide +kernel
theorem dX6_asPerson_26 : decode cX6_asPerson 26 = .ok (.invokevirtual 49, 3) := by decide +kernel
theorem dX6_asPerson_29 : decode cX6_asPerson 29 = .ok (.pop, 1) := by decide +kernel
theorem dX6_asPerson_30 : decode cX6_asPerson 30 = .ok (.iload_n 2, 1) := by decide +kernel
theorem dX6_asPerson_31 : decode cX6_asPerson 31 = .ok (.ireturn, 1) := by decide +kernel
theorem dX6_asTopic_0 : decode cX6_asTopic 0 = .ok (.aload_n 0, 1) := by decide +kernel
theorem dX6_asTopic_1 : decode cX6_asTopic 1 = .ok (.getfield 12, 3) := by decide +kernel
theorem dX6_asTopic_4 : decode cX6_asTopic 4 = .ok (.iload_n 1, 1) := by decide +kernel
theorem dX6_asTopic_5 : decode cX6_asTopic 5 = .ok (.invokevirtual 146, 3) := by decide +kernel
theorem dX6_asTopic_8 : decode cX6_asTopic 8 = .ok (.istore_n 2, 1) := by decide +kernel
theorem dX6_asTopic_9 : decode cX6_asTopic 9 = .ok (.iload_n 2, 1) := by decide +kernel
theorem dX6_asTopic_10 : decode cX6_asTopic 10 = .ok (.iconst (-1), 1) := by decide +kernel
theorem dX6_asTopic_11 : decode cX6_asTopic 11 = .ok (.if_icmp .ne 19, 3) := by decide +kernel
theorem dX6_asTopic_14 : decode cX6_asTopic 14 = .ok (.aload_n 0, 1) := by decide +kernel
theorem dX6_asTopic_15 : decode cX6_asTopic 15 = .ok (.getfield 18, 3) := by decide +kernel
theorem dX6_asTopic_18 : decode cX6_asTopic 18 = .ok (.iconst 3, 1) := by decide +kernel
theorem dX6_asTopic_19 : decode cX6_asTopic 19 = .ok (.aload_n 0, 1) := by decide +kernel
theorem dX6_asTopic_20 : decode cX6_asTopic 20 = .ok (.getfield 18, 3) := by decide +kernel
theorem dX6_asTopic_23 : decode cX6_asTopic 23 = .ok (.getfield 153, 3) := by decide +kernel
theorem dX6_asTopic_26 : decode cX6_asTopic 26 = .ok (.invokevirtual 49, 3) := by decide +kernel
theorem dX6_asTopic_29 : decode cX6_asTopic 29 = .ok (.pop, 1) := by decide +kernel
theorem dX6_asTopic_30 : decode cX6_asTopic 30 = .ok (.iload_n 2, 1) := by decide +kernel
theorem dX6_asTopic_31 : decode cX6_asTopic 31 = .ok (.ireturn, 1) := by decide +kernel
theorem dX6_readKnows_0 : decode cX6_readKnows 0 = .ok (.aload_n 0, 1) := by decide +kernel
theorem dX6_readKnows_1 : decode cX6_readKnows 1 = .ok (.getfield 18, 3) := by decide +kernel
theorem dX6_readKnows_4 : decode cX6_readKnows 4 = .ok (.invokevirtual 131, 3) := by decide +kernel
theorem dX6_readKnows_7 : decode cX6_readKnows 7 = .ok (.aload_n 0, 1) := by decide +kernel
theorem dX6_readKnows_8 : decode cX6_readKnows 8 = .ok (.aload_n 0, 1) := by decide +kernel
theorem dX6_readKnows_9 : decode cX6_readKnows 9 = .ok (.getfield 18, 3) := by decide +kernel
theorem dX6_readKnows_12 : decode cX6_readKnows 12 = .ok (.invokevirtual 156, 3) := by decide +kernel
theorem dX6_readKnows_15 : decode cX6_readKnows 15 = .ok (.invokevirtual 185, 3) := by decide +kernel
theorem dX6_readKnows_18 : decode cX6_readKnows 18 = .ok (.istore_n 1, 1) := by decide +kernel
theorem dX6_readKnows_19 : decode cX6_readKnows 19 = .ok (.iload_n 1, 1) := by decide +kernel
theorem dX6_readKnows_20 : decode cX6_readKnows 20 = .ok (.iconst (-1), 1) := by decide +kernel
theorem dX6_readKnows_21 : decode cX6_readKnows 21 = .ok (.if_icmp .eq 15, 3) := by decide +kernel
theorem dX6_readKnows_24 : decode cX6_readKnows 24 = .ok (.aload_n 0, 1) := by decide +kernel
theorem dX6_readKnows_25 : decode cX6_readKnows 25 = .ok (.getfield 18, 3) := by decide +kernel
theorem dX6_readKnows_28 : decode cX6_readKnows 28 = .ok (.bipush 8, 2) := by decide +kernel
theorem dX6_readKnows_30 : decode cX6_readKnows 30 = .ok (.invokevirtual 53, 3) := by decide +kernel
theorem dX6_readKnows_33 : decode cX6_readKnows 33 = .ok (.ifCond .ne 5, 3) := by decide +kernel
theorem dX6_readKnows_36 : decode cX6_readKnows 36 = .ok (.iconst 0, 1) := by decide +kernel
theorem dX6_readKnows_37 : decode cX6_readKnows 37 = .ok (.ireturn, 1) := by decide +kernel
theorem dX6_readKnows_38 : decode cX6_readKnows 38 = .ok (.aload_n 0, 1) := by decide +kernel
theorem dX6_readKnows_39 : decode cX6_readKnows 39 = .ok (.aload_n 0, 1) := by decide +kernel
theorem dX6_readKnows_40 : decode cX6_readKnows 40 = .ok (.getfield 18, 3) := by decide +kernel
theorem dX6_readKnows_43 : decode cX6_readKnows 43 = .ok (.invokevirtual 156, 3) := by decide +kernel
theorem dX6_readKnows_46 : decode cX6_readKnows 46 = .ok (.invokevirtual 188, 3) := by decide +kernel
theorem dX6_readKnows_49 : decode cX6_readKnows 49 = .ok (.istore_n 2, 1) := by decide +kernel
theorem dX6_readKnows_50 : decode cX6_readKnows 50 = .ok (.iload_n 2, 1) := by decide +kernel
theorem dX6_readKnows_51 : decode cX6_readKnows 51 = .ok (.iconst (-1), 1) := by decide +kernel
theorem dX6_readKnows_52 : decode cX6_readKnows 52 = .ok (.if_icmp .ne 5, 3) := by decide +kernel
theorem dX6_readKnows_55 : decode cX6_readKnows 55 = .ok (.iconst 0, 1) := by decide +kernel
theorem dX6_readKnows_56 : decode cX6_readKnows 56 = .ok (.ireturn, 1) := by decide +kernel
theorem dX6_readKnows_57 : decode cX6_readKnows 57 = .ok (.aload_n 0, 1) := by decide +kernel
theorem dX6_readKnows_58 : decode cX6_readKnows 58 = .ok (.getfield 12, 3) := by decide +kernel
theorem dX6_readKnows_61 : decode cX6_readKnows 61 = .ok (.getfield 137, 3) := by decide +kernel
theorem dX6_readKnows_64 : decode cX6_readKnows 64 = .ok (.getfield 182, 3) := by decide +kernel
theorem dX6_readKnows_67 : decode cX6_readKnows 67 = .ok (.iload_n 1, 1) := by decide +kernel
theorem dX6_readKnows_68 : decode cX6_readKnows 68 = .ok (.iaload, 1) := by decide +kernel
theorem dX6_readKnows_69 : decode cX6_readKnows 69 = .ok (.iload_n 2, 1) := by decide +kernel
theorem dX6_readKnows_70 : decode cX6_readKnows 70 = .ok (.ishr, 1) := by decide +kernel
theorem dX6_readKnows_71 : decode cX6_readKnows 71 = .ok (.iconst 1, 1) := by decide +kernel
theorem dX6_readKnows_72 : decode cX6_readKnows 72 = .ok (.iand, 1) := by decide +kernel
theorem dX6_readKnows_73 : decode cX6_readKnows 73 = .ok (.iconst 1, 1) := by decide +kernel
theorem dX6_readKnows_74 : decode cX6_readKnows 74 = .ok (.if_icmp .ne 19, 3) := by decide +kernel
theorem dX6_readKnows_77 : decode cX6_readKnows 77 = .ok (.aload_n 0, 1) := by decide +kernel
theorem dX6_readKnows_78 : decode cX6_readKnows 78 = .ok (.getfield 18, 3) := by decide +kernel
theorem dX6_readKnows_81 : decode cX6_readKnows 81 = .ok (.iconst 3, 1) := by decide +kernel
theorem dX6_readKnows_82 : decode cX6_readKnows 82 = .ok (.aload_n 0, 1) := by decide +kernel
theorem dX6_readKnows_83 : decode cX6_readKnows 83 = .ok (.getfield 18, 3) := by decide +kernel
theorem dX6_readKnows_86 : decode cX6_readKnows 86 = .ok (.getfield 153, 3) := by decide +kernel
theorem dX6_readKnows_89 : decode cX6_readKnows 89 = .ok (.invokevirtual 49, 3) := by decide +kernel
theorem dX6_readKnows_92 : decode cX6_readKnows 92 = .ok (.ireturn, 1) := by decide +kernel
theorem dX6_readKnows_93 : decode cX6_readKnows 93 = .ok (.aload_n 0, 1) := by decide +kernel
theorem dX6_readKnows_94 : decode cX6_readKnows 94 = .ok (.getfield 12, 3) := by decide +kernel
theorem dX6_readKnows_97 : decode cX6_readKnows 97 = .ok (.getfield 137, 3) := by decide +kernel
theorem dX6_readKnows_100 : decode cX6_readKnows 100 = .ok (.getfield 182, 3) := by decide +kernel
theorem dX6_readKnows_103 : decode cX6_readKnows 103 = .ok (.iload_n 1, 1) := by decide +kernel
theorem dX6_readKnows_104 : decode cX6_readKnows 104 = .ok (.dup2, 1) := by decide +kernel
theorem dX6_readKnows_105 : decode cX6_readKnows 105 = .ok (.iaload, 1) := by decide +kernel
theorem dX6_readKnows_106 : decode cX6_readKnows 106 = .ok (.iconst 1, 1) := by decide +kernel
theorem dX6_readKnows_107 : decode cX6_readKnows 107 = .ok (.iload_n 2, 1) := by decide +kernel
theorem dX6_readKnows_108 : decode cX6_readKnows 108 = .ok (.ishl, 1) := by decide +kernel
theorem dX6_readKnows_109 : decode cX6_readKnows 109 = .ok (.ior, 1) := by decide +kernel
theorem dX6_readKnows_110 : decode cX6_readKnows 110 = .ok (.iastore, 1) := by decide +kernel
theorem dX6_readKnows_111 : decode cX6_readKnows 111 = .ok (.iconst 1, 1) := by decide +kernel
theorem dX6_readKnows_112 : decode cX6_readKnows 112 = .ok (.ireturn, 1) := by decide +kernel
theorem dX6_readAsks_0 : decode cX6_readAsks 0 = .ok (.aload_n 0, 1) := by decide +kernel
theorem dX6_readAsks_1 : decode cX6_readAsks 1 = .ok (.getfield 18, 3) := by decide +kernel
theorem dX6_readAsks_4 : decode cX6_readAsks 4 = .ok (.invokevirtual 131, 3) := by decide +kernel
theorem dX6_readAsks_7 : decode cX6_readAsks 7 = .ok (.aload_n 0, 1) := by decide +kernel
theorem dX6_readAsks_8 : decode cX6_readAsks 8 = .ok (.aload_n 0, 1) := by decide +kernel
theorem dX6_readAsks_9 : decode cX6_readAsks 9 = .ok (.getfield 18, 3) := by decide +kernel
theorem dX6_readAsks_12 : decode cX6_readAsks 12 = .ok (.invokevirtual 156, 3) := by decide +kernel
theorem dX6_readAsks_15 : decode cX6_readAsks 15 = .ok (.invokevirtual 185, 3) := by decide +kernel
theorem dX6_readAsks_18 : decode cX6_readAsks 18 = .ok (.istore_n 1, 1) := by decide +kernel
theorem dX6_readAsks_19 : decode cX6_readAsks 19 = .ok (.iload_n 1, 1) := by decide +kernel
theorem dX6_readAsks_20 : decode cX6_readAsks 20 = .ok (.iconst (-1), 1) := by decide +kernel
theorem dX6_readAsks_21 : decode cX6_readAsks 21 = .ok (.if_icmp .eq 15, 3) := by decide +kernel
theorem dX6_readAsks_24 : decode cX6_readAsks 24 = .ok (.aload_n 0, 1) := by decide +kernel
theorem dX6_readAsks_25 : decode cX6_readAsks 25 = .ok (.getfield 18, 3) := by decide +kernel
theorem dX6_readAsks_28 : decode cX6_readAsks 28 = .ok (.bipush 8, 2) := by decide +kernel
theorem dX6_readAsks_30 : decode cX6_readAsks 30 = .ok (.invokevirtual 53, 3) := by decide +kernel
theorem dX6_readAsks_33 : decode cX6_readAsks 33 = .ok (.ifCond .ne 5, 3) := by decide +kernel
theorem dX6_readAsks_36 : decode cX6_readAsks 36 = .ok (.iconst 0, 1) := by decide +kernel
theorem dX6_readAsks_37 : decode cX6_readAsks 37 = .ok (.ireturn, 1) := by decide +kernel
theorem dX6_readAsks_38 : decode cX6_readAsks 38 = .ok (.aload_n 0, 1) := by decide +kernel
theorem dX6_readAsks_39 : decode cX6_readAsks 39 = .ok (.aload_n 0, 1) := by decide +kernel
theorem dX6_readAsks_40 : decode cX6_readAsks 40 = .ok (.getfield 18, 3) := by decide +kernel
theorem dX6_readAsks_43 : decode cX6_readAsks 43 = .ok (.invokevirtual 156, 3) := by decide +kernel
theorem dX6_readAsks_46 : decode cX6_readAsks 46 = .ok (.invokevirtual 188, 3) := by decide +kernel
theorem dX6_readAsks_49 : decode cX6_readAsks 49 = .ok (.istore_n 2, 1) := by decide +kernel
theorem dX6_readAsks_50 : decode cX6_readAsks 50 = .ok (.iload_n 2, 1) := by decide +kernel
theorem dX6_readAsks_51 : decode cX6_readAsks 51 = .ok (.iconst (-1), 1) := by decide +kernel
theorem dX6_readAsks_52 : decode cX6_readAsks 52 = .ok (.if_icmp .ne 5, 3) := by decide +kernel
theorem dX6_readAsks_55 : decode cX6_readAsks 55 = .ok (.iconst 0, 1) := by decide +kernel
theorem dX6_readAsks_56 : decode cX6_readAsks 56 = .ok (.ireturn, 1) := by decide +kernel
theorem dX6_readAsks_57 : decode cX6_readAsks 57 = .ok (.aload_n 0, 1) := by decide +kernel
theorem dX6_readAsks_58 : decode cX6_readAsks 58 = .ok (.getfield 12, 3) := by decide +kernel
theorem dX6_readAsks_61 : decode cX6_readAsks 61 = .ok (.getfield 191, 3) := by decide +kernel
theorem dX6_readAsks_64 : decode cX6_readAsks 64 = .ok (.aload_n 0, 1) := by decide +kernel
theorem dX6_readAsks_65 : decode cX6_readAsks 65 = .ok (.getfield 12, 3) := by decide +kernel
theorem dX6_readAsks_68 : decode cX6_readAsks 68 = .ok (.getfield 128, 3) := by decide +kernel
theorem dX6_readAsks_71 : decode cX6_readAsks 71 = .ok (.iload_n 1, 1) := by decide +kernel
theorem dX6_readAsks_72 : decode cX6_readAsks 72 = .ok (.iastore, 1) := by decide +kernel
theorem dX6_readAsks_73 : decode cX6_readAsks 73 = .ok (.aload_n 0, 1) := by decide +kernel
theorem dX6_readAsks_74 : decode cX6_readAsks 74 = .ok (.getfield 12, 3) := by decide +kernel
theorem dX6_readAsks_77 : decode cX6_readAsks 77 = .ok (.getfield 194, 3) := by decide +kernel
theorem dX6_readAsks_80 : decode cX6_readAsks 80 = .ok (.aload_n 0, 1) := by decide +kernel
theorem dX6_readAsks_81 : decode cX6_readAsks 81 = .ok (.getfield 12, 3) := by decide +kernel
theorem dX6_readAsks_84 : decode cX6_readAsks 84 = .ok (.getfield 128, 3) := by decide +kernel
theorem dX6_readAsks_87 : decode cX6_readAsks 87 = .ok (.iload_n 2, 1) := by decide +kernel
theorem dX6_readAsks_88 : decode cX6_readAsks 88 = .ok (.iastore, 1) := by decide +kernel
theorem dX6_readAsks_89 : decode cX6_readAsks 89 = .ok (.aload_n 0, 1) := by decide +kernel
theorem dX6_readAsks_90 : decode cX6_readAsks 90 = .ok (.getfield 12, 3) := by decide +kernel
theorem dX6_readAsks_93 : decode cX6_readAsks 93 = .ok (.dup, 1) := by decide +kernel
theorem dX6_readAsks_94 : decode cX6_readAsks 94 = .ok (.getfield 128, 3) := by decide +kernel
theorem dX6_readAsks_97 : decode cX6_readAsks 97 = .ok (.iconst 1, 1) := by decide +kernel
theorem dX6_readAsks_98 : decode cX6_readAsks 98 = .ok (.iadd, 1) := by decide +kernel
theorem dX6_readAsks_99 : decode cX6_readAsks 99 = .ok (.putfield 128, 3) := by decide +kernel
theorem dX6_readAsks_102 : decode cX6_readAsks 102 = .ok (.iconst 1, 1) := by decide +kernel
theorem dX6_readAsks_103 : decode cX6_readAsks 103 = .ok (.ireturn, 1) := by decide +kernel
theorem dX6_beginRule_0 : decode cX6_beginRule 0 = .ok (.aload_n 0, 1) := by decide +kernel
theorem dX6_beginRule_1 : decode cX6_beginRule 1 = .ok (.getfield 18, 3) := by decide +kernel
theorem dX6_beginRule_4 : decode cX6_beginRule 4 = .ok (.invokevirtual 131, 3) := by decide +kernel
theorem dX6_beginRule_7 : decode cX6_beginRule 7 = .ok (.aload_n 0, 1) := by decide +kernel
theorem dX6_beginRule_8 : decode cX6_beginRule 8 = .ok (.getfield 22, 3) := by decide +kernel
theorem dX6_beginRule_11 : decode cX6_beginRule 11 = .ok (.aload_n 1, 1) := by decide +kernel
theorem dX6_beginRule_12 : decode cX6_beginRule 12 = .ok (.iload_n 2, 1) := by decide +kernel
theorem dX6_beginRule_13 : decode cX6_beginRule 13 = .ok (.invokevirtual 197, 3) := by decide +kernel
theorem dX6_beginRule_16 : decode cX6_beginRule 16 = .ok (.return_, 1) := by decide +kernel
theorem dX6_readCrowd_0 : decode cX6_readCrowd 0 = .ok (.aload_n 0, 1) := by decide +kernel
theorem dX6_readCrowd_1 : decode cX6_readCrowd 1 = .ok (.getfield 18, 3) := by decide +kernel
theorem dX6_readCrowd_4 : decode cX6_readCrowd 4 = .ok (.invokevirtual 131, 3) := by decide +kernel
theorem dX6_readCrowd_7 : decode cX6_readCrowd 7 = .ok (.aload_n 0, 1) := by decide +kernel
theorem dX6_readCrowd_8 : decode cX6_readCrowd 8 = .ok (.getfield 18, 3) := by decide +kernel
theorem dX6_readCrowd_11 : decode cX6_readCrowd 11 = .ok (.iconst 0, 1) := by decide +kernel
theorem dX6_readCrowd_12 : decode cX6_readCrowd 12 = .ok (.bipush 100, 2) := by decide +kernel
theorem dX6_readCrowd_14 : decode cX6_readCrowd 14 = .ok (.invokevirtual 56, 3) := by decide +kernel
theorem dX6_readCrowd_17 : decode cX6_readCrowd 17 = .ok (.istore_n 1, 1) := by decide +kernel
theorem dX6_readCrowd_18 : decode cX6_readCrowd 18 = .ok (.iload_n 1, 1) := by decide +kernel
theorem dX6_readCrowd_19 : decode cX6_readCrowd 19 = .ok (.iconst (-1), 1) := by decide +kernel
theorem dX6_readCrowd_20 : decode cX6_readCrowd 20 = .ok (.if_icmp .ne 5, 3) := by decide +kernel
theorem dX6_readCrowd_23 : decode cX6_readCrowd 23 = .ok (.iconst 0, 1) := by decide +kernel
theorem dX6_readCrowd_24 : decode cX6_readCrowd 24 = .ok (.ireturn, 1) := by decide +kernel
theorem dX6_readCrowd_25 : decode cX6_readCrowd 25 = .ok (.aload_n 0, 1) := by decide +kernel
theorem dX6_readCrowd_26 : decode cX6_readCrowd 26 = .ok (.getfield 12, 3) := by decide +kernel
theorem dX6_readCrowd_29 : decode cX6_readCrowd 29 = .ok (.iload_n 1, 1) := by decide +kernel
theorem dX6_readCrowd_30 : decode cX6_readCrowd 30 = .ok (.putfield 200, 3) := by decide +kernel
theorem dX6_readCrowd_33 : decode cX6_readCrowd 33 = .ok (.iconst 1, 1) := by decide +kernel
theorem dX6_readCrowd_34 : decode cX6_readCrowd 34 = .ok (.ireturn, 1) := by decide +kernel
theorem dX7_init_0 : decode cX7_init 0 = .ok (.aload_n 0, 1) := by decide +kernel
theorem dX7_init_1 : decode cX7_init 1 = .ok (.invokespecial 3, 3) := by decide +kernel
theorem dX7_init_4 : decode cX7_init 4 = .ok (.aload_n 0, 1) := by decide +kernel
theorem dX7_init_5 : decode cX7_init 5 = .ok (.iconst 4, 1) := by decide +kernel
theorem dX7_init_6 : decode cX7_init 6 = .ok (.anewarray 9, 3) := by decide +kernel
theorem dX7_init_9 : decode cX7_init 9 = .ok (.putfield 11, 3) := by decide +kernel
theorem dX7_init_12 : decode cX7_init 12 = .ok (.aload_n 0, 1) := by decide +kernel
theorem dX7_init_13 : decode cX7_init 13 = .ok (.iconst 3, 1) := by decide +kernel
theorem dX7_init_14 : decode cX7_init 14 = .ok (.newarray .int, 2) := by decide +kernel
theorem dX7_init_16 : decode cX7_init 16 = .ok (.putfield 17, 3) := by decide +kernel
theorem dX7_init_19 : decode cX7_init 19 = .ok (.aload_n 0, 1) := by decide +kernel
theorem dX7_init_20 : decode cX7_init 20 = .ok (.aload_n 1, 1) := by decide +kernel
theorem dX7_init_21 : decode cX7_init 21 = .ok (.putfield 21, 3) := by decide +kernel
theorem dX7_init_24 : decode cX7_init 24 = .ok (.iconst 0, 1) := by decide +kernel
theorem dX7_init_25 : decode cX7_init 25 = .ok (.istore_n 2, 1) := by decide +kernel
theorem dX7_init_26 : decode cX7_init 26 = .ok (.iload_n 2, 1) := by decide +kernel
theorem dX7_init_27 : decode cX7_init 27 = .ok (.iconst 3, 1) := by decide +kernel
theorem dX7_init_28 : decode cX7_init 28 = .ok (.if_icmp .gt 22, 3) := by decide +kernel
theorem dX7_init_31 : decode cX7_init 31 = .ok (.aload_n 0, 1) := by decide +kernel
theorem dX7_init_32 : decode cX7_init 32 = .ok (.getfield 11, 3) := by decide +kernel
theorem dX7_init_35 : decode cX7_init 35 = .ok (.iload_n 2, 1) := by decide +kernel
theorem dX7_init_36 : decode cX7_init 36 = .ok (.new 9, 3) := by decide +kernel
theorem dX7_init_39 : decode cX7_init 39 = .ok (.dup, 1) := by decide +kernel
theorem dX7_init_40 : decode cX7_init 40 = .ok (.invokespecial 25, 3) := by decide +kernel
theorem dX7_init_43 : decode cX7_init 43 = .ok (.aastore, 1) := by decide +kernel
theorem dX7_init_44 : decode cX7_init 44 = .ok (.iinc 2 1, 3) := by decide +kernel
theorem dX7_init_47 : decode cX7_init 47 = .ok (.goto (-21), 3) := by decide +kernel
theorem dX7_init_50 : decode cX7_init 50 = .ok (.return_, 1) := by decide +kernel
theorem dX7_find_0 : decode cX7_find 0 = .ok (.aload_n 0, 1) := by decide +kernel
theorem dX7_find_1 : decode cX7_find 1 = .ok (.getfield 11, 3) := by decide +kernel
theorem dX7_find_4 : decode cX7_find 4 = .ok (.iconst 0, 1) := by decide +kernel
theorem dX7_find_5 : decode cX7_find 5 = .ok (.aaload, 1) := by decide +kernel
theorem dX7_find_6 : decode cX7_find 6 = .ok (.aload_n 1, 1) := by decide +kernel
theorem dX7_find_7 : decode cX7_find 7 = .ok (.invokevirtual 26, 3) := by decide +kernel
theorem dX7_find_10 : decode cX7_find 10 = .ok (.aload_n 0, 1) := by decide +kernel
theorem dX7_find_11 : decode cX7_find 11 = .ok (.iload_n 2, 1) := by decide +kernel
theorem dX7_find_12 : decode cX7_find 12 = .ok (.putfield 30, 3) := by decide +kernel
theorem dX7_find_15 : decode cX7_find 15 = .ok (.aload_n 0, 1) := by decide +kernel
theorem dX7_find_16 : decode cX7_find 16 = .ok (.iload_n 3, 1) := by decide +kernel
theorem dX7_find_17 : decode cX7_find 17 = .ok (.putfield 34, 3) := by decide +kernel
theorem dX7_find_20 : decode cX7_find 20 = .ok (.aload_n 0, 1) := by decide +kernel
theorem dX7_find_21 : decode cX7_find 21 = .ok (.iload 4, 2) := by decide +kernel
theorem dX7_find_23 : decode cX7_find 23 = .ok (.putfield 37, 3) := by decide +kernel
theorem dX7_find_26 : decode cX7_find 26 = .ok (.aload_n 0, 1) := by decide +kernel
theorem dX7_find_27 : decode cX7_find 27 = .ok (.aload_n 0, 1) := by decide +kernel
theorem dX7_find_28 : decode cX7_find 28 = .ok (.getfield 21, 3) := by decide +kernel
theorem dX7_find_31 : decode cX7_find 31 = .ok (.getfield 40, 3) := by decide +kernel
theorem dX7_find_34 : decode cX7_find 34 = .ok (.invokevirtual 46, 3) := by decide +kernel
theorem dX7_find_37 : decode cX7_find 37 = .ok (.putfield 52, 3) := by decide +kernel
theorem dX7_find_40 : decode cX7_find 40 = .ok (.iconst 0, 1) := by decide +kernel
theorem dX7_find_41 : decode cX7_find 41 = .ok (.istore 5, 2) := by decide +kernel
theorem dX7_find_43 : decode cX7_find 43 = .ok (.iload 5, 2) := by decide +kernel
theorem dX7_find_45 : decode cX7_find 45 = .ok (.iconst 3, 1) := by decide +kernel
theorem dX7_find_46 : decode cX7_find 46 = .ok (.if_icmp .gt 22, 3) := by decide +kernel
theorem dX7_find_49 : decode cX7_find 49 = .ok (.aload_n 0, 1) := by decide +kernel
theorem dX7_find_50 : decode cX7_find 50 = .ok (.iconst 0, 1) := by decide +kernel
theorem dX7_find_51 : decode cX7_find 51 = .ok (.iload 5, 2) := by decide +kernel
theorem dX7_find_53 : decode cX7_find 53 = .ok (.invokevirtual 55, 3) := by decide +kernel
theorem dX7_find_56 : decode cX7_find 56 = .ok (.ifCond .eq 6, 3) := by decide +kernel
theorem dX7_find_59 : decode cX7_find 59 = .ok (.iload 5, 2) := by decide +kernel
theorem dX7_find_61 : decode cX7_find 61 = .ok (.ireturn, 1) := by decide +kernel
theorem dX7_find_62 : decode cX7_find 62 = .ok (.iinc 5 1, 3) := by decide +kernel
theorem dX7_find_65 : decode cX7_find 65 = .ok (.goto (-22), 3) := by decide +kernel
theorem dX7_find_68 : decode cX7_find 68 = .ok (.iconst (-1), 1) := by decide +kernel
theorem dX7_find_69 : decode cX7_find 69 = .ok (.ireturn, 1) := by decide +kernel
theorem dX7_goesOn_0 : decode cX7_goesOn 0 = .ok (.aload_n 0, 1) := by decide +kernel
theorem dX7_goesOn_1 : decode cX7_goesOn 1 = .ok (.getfield 11, 3) := by decide +kernel
theorem dX7_goesOn_4 : decode cX7_goesOn 4 = .ok (.iload_n 1, 1) := by decide +kernel
theorem dX7_goesOn_5 : decode cX7_goesOn 5 = .ok (.aaload, 1) := by decide +kernel
theorem dX7_goesOn_6 : decode cX7_goesOn 6 = .ok (.astore_n 3, 1) := by decide +kernel
theorem dX7_goesOn_7 : decode cX7_goesOn 7 = .ok (.iload_n 1, 1) := by decide +kernel
theorem dX7_goesOn_8 : decode cX7_goesOn 8 = .ok (.iload_n 2, 1) := by decide +kernel
theorem dX7_goesOn_9 : decode cX7_goesOn 9 = .ok (.if_icmp .lt 51, 3) := by decide +kernel
theorem dX7_goesOn_12 : decode cX7_goesOn 12 = .ok (.aload_n 3, 1) := by decide +kernel
theorem dX7_goesOn_13 : decode cX7_goesOn 13 = .ok (.getfield 59, 3) := by decide +kernel
theorem dX7_goesOn_16 : decode cX7_goesOn 16 = .ok (.aload_n 0, 1) := by decide +kernel
theorem dX7_goesOn_17 : decode cX7_goesOn 17 = .ok (.getfield 30, 3) := by decide +kernel
theorem dX7_goesOn_20 : decode cX7_goesOn 20 = .ok (.iaload, 1) := by decide +kernel
theorem dX7_goesOn_21 : decode cX7_goesOn 21 = .ok (.aload_n 0, 1) := by decide +kernel
theorem dX7_goesOn_22 : decode cX7_goesOn 22 = .ok (.getfield 34, 3) := by decide +kernel
theorem dX7_goesOn_25 : decode cX7_goesOn 25 = .ok (.if_icmp .lt 33, 3) := by decide +kernel
theorem dX7_goesOn_28 : decode cX7_goesOn 28 = .ok (.aload_n 3, 1) := by decide +kernel
theorem dX7_goesOn_29 : decode cX7_goesOn 29 = .ok (.getfield 59, 3) := by decide +kernel
theorem dX7_goesOn_32 : decode cX7_goesOn 32 = .ok (.aload_n 0, 1) := by decide +kernel
theorem dX7_goesOn_33 : decode cX7_goesOn 33 = .ok (.getfield 37, 3) := by decide +kernel
theorem dX7_goesOn_36 : decode cX7_goesOn 36 = .ok (.iaload, 1) := by decide +kernel
theorem dX7_goesOn_37 : decode cX7_goesOn 37 = .ok (.aload_n 0, 1) := by decide +kernel
theorem dX7_goesOn_38 : decode cX7_goesOn 38 = .ok (.getfield 11, 3) := by decide +kernel
theorem dX7_goesOn_41 : decode cX7_goesOn 41 = .ok (.iconst 0, 1) := by decide +kernel
theorem dX7_goesOn_42 : decode cX7_goesOn 42 = .ok (.aaload, 1) := by decide +kernel
theorem dX7_goesOn_43 : decode cX7_goesOn 43 = .ok (.getfield 59, 3) := by decide +kernel
theorem dX7_goesOn_46 : decode cX7_goesOn 46 = .ok (.aload_n 0, 1) := by decide +kernel
theorem dX7_goesOn_47 : decode cX7_goesOn 47 = .ok (.getfield 37, 3) := by decide +kernel
theorem dX7_goesOn_50 : decode cX7_goesOn 50 = .ok (.iaload, 1) := by decide +kernel
theorem dX7_goesOn_51 : decode cX7_goesOn 51 = .ok (.if_icmp .ne 7, 3) := by decide +kernel
theorem dX7_goesOn_54 : decode cX7_goesOn 54 = .ok (.iconst 1, 1) := by decide +kernel
theorem dX7_goesOn_55 : decode cX7_goesOn 55 = .ok (.goto 4, 3) := by decide +kernel
theorem dX7_goesOn_58 : decode cX7_goesOn 58 = .ok (.iconst 0, 1) := by decide +kernel
theorem dX7_goesOn_59 : decode cX7_goesOn 59 = .ok (.ireturn, 1) := by decide +kernel
theorem dX7_goesOn_60 : decode cX7_goesOn 60 = .ok (.iconst 0, 1) := by decide +kernel
theorem dX7_goesOn_61 : decode cX7_goesOn 61 = .ok (.istore 4, 2) := by decide +kernel
theorem dX7_goesOn_63 : decode cX7_goesOn 63 = .ok (.iload 4, 2) := by decide +kernel
theorem dX7_goesOn_65 : decode cX7_goesOn 65 = .ok (.aload_n 0, 1) := by decide +kernel
theorem dX7_goesOn_66 : decode cX7_goesOn 66 = .ok (.getfield 21, 3) := by decide +kernel
theorem dX7_goesOn_69 : decode cX7_goesOn 69 = .ok (.getfield 40, 3) := by decide +kernel
theorem dX7_goesOn_72 : decode cX7_goesOn 72 = .ok (.getfield 62, 3) := by decide +kernel
theorem dX7_goesOn_75 : decode cX7_goesOn 75 = .ok (.if_icmp .ge 79, 3) := by decide +kernel
theorem dX7_goesOn_78 : decode cX7_goesOn 78 = .ok (.iload_n 2, 1) := by decide +kernel
theorem dX7_goesOn_79 : decode cX7_goesOn 79 = .ok (.iload_n 1, 1) := by decide +kernel
theorem dX7_goesOn_80 : decode cX7_goesOn 80 = .ok (.isub, 1) := by decide +kernel
theorem dX7_goesOn_81 : decode cX7_goesOn 81 = .ok (.iconst 1, 1) := by decide +kernel
theorem dX7_goesOn_82 : decode cX7_goesOn 82 = .ok (.isub, 1) := by decide +kernel
theorem dX7_goesOn_83 : decode cX7_goesOn 83 = .ok (.istore 5, 2) := by decide +kernel
theorem dX7_goesOn_85 : decode cX7_goesOn 85 = .ok (.aload_n 0, 1) := by decide +kernel
theorem dX7_goesOn_86 : decode cX7_goesOn 86 = .ok (.aload_n 3, 1) := by decide +kernel
theorem dX7_goesOn_87 : decode cX7_goesOn 87 = .ok (.aload_n 0, 1) := by decide +kernel
theorem dX7_goesOn_88 : decode cX7_goesOn 88 = .ok (.getfield 30, 3) := by decide +kernel
theorem dX7_goesOn_91 : decode cX7_goesOn 91 = .ok (.aload_n 0, 1) := by decide +kernel
theorem dX7_goesOn_92 : decode cX7_goesOn 92 = .ok (.getfield 34, 3) := by decide +kernel
theorem dX7_goesOn_95 : decode cX7_goesOn 95 = .ok (.iload 4, 2) := by decide +kernel
theorem dX7_goesOn_97 : decode cX7_goesOn 97 = .ok (.iload 5, 2) := by decide +kernel
theorem dX7_goesOn_99 : decode cX7_goesOn 99 = .ok (.invokevirtual 65, 3) := by decide +kernel
theorem dX7_goesOn_102 : decode cX7_goesOn 102 = .ok (.ifCond .eq 46, 3) := by decide +kernel
theorem dX7_goesOn_105 : decode cX7_goesOn 105 = .ok (.aload_n 0, 1) := by decide +kernel
theorem dX7_goesOn_106 : decode cX7_goesOn 106 = .ok (.aload_n 3, 1) := by decide +kernel
theorem dX7_goesOn_107 : decode cX7_goesOn 107 = .ok (.aload_n 0, 1) := by decide +kernel
theorem dX7_goesOn_108 : decode cX7_goesOn 108 = .ok (.getfield 37, 3) := by decide +kernel
theorem dX7_goesOn_111 : decode cX7_goesOn 111 = .ok (.aload_n 0, 1) := by decide +kernel
theorem dX7_goesOn_112 : decode cX7_goesOn 112 = .ok (.getfield 11, 3) := by decide +kernel
theorem dX7_goesOn_115 : decode cX7_goesOn 115 = .ok (.iconst 0, 1) := by decide +kernel
theorem dX7_goesOn_116 : decode cX7_goesOn 116 = .ok (.aaload, 1) := by decide +kernel
theorem dX7_goesOn_117 : decode cX7_goesOn 117 = .ok (.getfield 59, 3) := by decide +kernel
theorem dX7_goesOn_120 : decode cX7_goesOn 120 = .ok (.aload_n 0, 1) := by decide +kernel
theorem dX7_goesOn_121 : decode cX7_goesOn 121 = .ok (.getfield 37, 3) := by decide +kernel
theorem dX7_goesOn_124 : decode cX7_goesOn 124 = .ok (.iaload, 1) := by decide +kernel
theorem dX7_goesOn_125 : decode cX7_goesOn 125 = .ok (.iload 4, 2) := by decide +kernel
theorem dX7_goesOn_127 : decode cX7_goesOn 127 = .ok (.iload 5, 2) := by decide +kernel
theorem dX7_goesOn_129 : decode cX7_goesOn 129 = .ok (.invokevirtual 65, 3) := by decide +kernel
theorem dX7_goesOn_132 : decode cX7_goesOn 132 = .ok (.ifCond .eq 16, 3) := by decide +kernel
theorem dX7_goesOn_135 : decode cX7_goesOn 135 = .ok (.aload_n 0, 1) := by decide +kernel
theorem dX7_goesOn_136 : decode cX7_goesOn 136 = .ok (.iload 4, 2) := by decide +kernel
theorem dX7_goesOn_138 : decode cX7_goesOn 138 = .ok (.iload_n 1, 1) := by decide +kernel
theorem dX7_goesOn_139 : decode cX7_goesOn 139 = .ok (.iload_n 2, 1) := by decide +kernel
theorem dX7_goesOn_140 : decode cX7_goesOn 140 = .ok (.invokevirtual 69, 3) := by decide +kernel
theorem dX7_goesOn_143 : decode cX7_goesOn 143 = .ok (.ifCond .eq 5, 3) := by decide +kernel
theorem dX7_goesOn_146 : decode cX7_goesOn 146 = .ok (.iconst 1, 1) := by decide +kernel
theorem dX7_goesOn_147 : decode cX7_goesOn 147 = .ok (.ireturn, 1) := by decide +kernel
theorem dX7_goesOn_148 : decode cX7_goesOn 148 = .ok (.iinc 4 1, 3) := by decide +kernel
theorem dX7_goesOn_151 : decode cX7_goesOn 151 = .ok (.goto (-88), 3) := by decide +kernel
theorem dX7_goesOn_154 : decode cX7_goesOn 154 = .ok (.iconst 0, 1) := by decide +kernel
theorem dX7_goesOn_155 : decode cX7_goesOn 155 = .ok (.ireturn, 1) := by decide +kernel
theorem dX7_mayRise_0 : decode cX7_mayRise 0 = .ok (.aload_n 1, 1) := by decide +kernel
theorem dX7_mayRise_1 : decode cX7_mayRise 1 = .ok (.getfield 73, 3) := by decide +kernel
theorem dX7_mayRise_4 : decode cX7_mayRise 4 = .ok (.iload 4, 2) := by decide +kernel
theorem dX7_mayRise_6 : decode cX7_mayRise 6 = .ok (.iaload, 1) := by decide +kernel
theorem dX7_mayRise_7 : decode cX7_mayRise 7 = .ok (.istore 6, 2) := by decide +kernel
theorem dX7_mayRise_9 : decode cX7_mayRise 9 = .ok (.aload_n 1, 1) := by decide +kernel
theorem dX7_mayRise_10 : decode cX7_mayRise 10 = .ok (.getfield 76, 3) := by decide +kernel
theorem dX7_mayRise_13 : decode cX7_mayRise 13 = .ok (.iload 4, 2) := by decide +kernel
theorem dX7_mayRise_15 : decode cX7_mayRise 15 = .ok (.iaload, 1) := by decide +kernel
theorem dX7_mayRise_16 : decode cX7_mayRise 16 = .ok (.istore 7, 2) := by decide +kernel
theorem dX7_mayRise_18 : decode cX7_mayRise 18 = .ok (.aload_n 0, 1) := by decide +kernel
theorem dX7_mayRise_19 : decode cX7_mayRise 19 = .ok (.getfield 21, 3) := by decide +kernel
theorem dX7_mayRise_22 : decode cX7_mayRise 22 = .ok (.getfield 40, 3) := by decide +kernel
theorem dX7_mayRise_25 : decode cX7_mayRise 25 = .ok (.iload 6, 2) := by decide +kernel
theorem dX7_mayRise_27 : decode cX7_mayRise 27 = .ok (.iconst 1, 1) := by decide +kernel
theorem dX7_mayRise_28 : decode cX7_mayRise 28 = .ok (.isub, 1) := by decide +kernel
theorem dX7_mayRise_29 : decode cX7_mayRise 29 = .ok (.iload 7, 2) := by decide +kernel
theorem dX7_mayRise_31 : decode cX7_mayRise 31 = .ok (.invokevirtual 79, 3) := by decide +kernel
theorem dX7_mayRise_34 : decode cX7_mayRise 34 = .ok (.iload_n 2, 1) := by decide +kernel
theorem dX7_mayRise_35 : decode cX7_mayRise 35 = .ok (.if_icmp .eq 23, 3) := by decide +kernel
theorem dX7_mayRise_38 : decode cX7_mayRise 38 = .ok (.aload_n 0, 1) := by decide +kernel
theorem dX7_mayRise_39 : decode cX7_mayRise 39 = .ok (.getfield 21, 3) := by decide +kernel
theorem dX7_mayRise_42 : decode cX7_mayRise 42 = .ok (.getfield 40, 3) := by decide +kernel
theorem dX7_mayRise_45 : decode cX7_mayRise 45 = .ok (.iload 6, 2) := by decide +kernel
theorem dX7_mayRise_47 : decode cX7_mayRise 47 = .ok (.iconst 1, 1) := by decide +kernel
theorem dX7_mayRise_48 : decode cX7_mayRise 48 = .ok (.iadd, 1) := by decide +kernel
theorem dX7_mayRise_49 : decode cX7_mayRise 49 = .ok (.iload 7, 2) := by decide +kernel
theorem dX7_mayRise_51 : decode cX7_mayRise 51 = .ok (.invokevirtual 79, 3) := by decide +kernel
theorem dX7_mayRise_54 : decode cX7_mayRise 54 = .ok (.iload_n 2, 1) := by decide +kernel
theorem dX7_mayRise_55 : decode cX7_mayRise 55 = .ok (.if_icmp .ne 7, 3) := by decide +kernel
theorem dX7_mayRise_58 : decode cX7_mayRise 58 = .ok (.iconst 1, 1) := by decide +kernel
theorem dX7_mayRise_59 : decode cX7_mayRise 59 = .ok (.goto 4, 3) := by decide +kernel
theorem dX7_mayRise_62 : decode cX7_mayRise 62 = .ok (.iconst 0, 1) := by decide +kernel
theorem dX7_mayRise_63 : decode cX7_mayRise 63 = .ok (.istore 8, 2) := by decide +kernel
theorem dX7_mayRise_65 : decode cX7_mayRise 65 = .ok (.aload_n 1, 1) := by decide +kernel
theorem dX7_mayRise_66 : decode cX7_mayRise 66 = .ok (.getfield 59, 3) := by decide +kernel
theorem dX7_mayRise_69 : decode cX7_mayRise 69 = .ok (.iload_n 2, 1) := by decide +kernel
theorem dX7_mayRise_70 : decode cX7_mayRise 70 = .ok (.iaload, 1) := by decide +kernel
theorem dX7_mayRise_71 : decode cX7_mayRise 71 = .ok (.bipush 9, 2) := by decide +kernel
theorem dX7_mayRise_73 : decode cX7_mayRise 73 = .ok (.iload 8, 2) := by decide +kernel
theorem dX7_mayRise_75 : decode cX7_mayRise 75 = .ok (.ifCond .eq 10, 3) := by decide +kernel
theorem dX7_mayRise_78 : decode cX7_mayRise 78 = .ok (.iload 5, 2) := by decide +kernel
theorem dX7_mayRise_80 : decode cX7_mayRise 80 = .ok (.iconst 1, 1) := by decide +kernel
theorem dX7_mayRise_81 : decode cX7_mayRise 81 = .ok (.iadd, 1) := by decide +kernel
theorem dX7_mayRise_82 : decode cX7_mayRise 82 = .ok (.goto 5, 3) := by decide +kernel
theorem dX7_mayRise_85 : decode cX7_mayRise 85 = .ok (.iload 5, 2) := by decide +kernel
theorem dX7_mayRise_87 : decode cX7_mayRise 87 = .ok (.imul, 1) := by decide +kernel
theorem dX7_mayRise_88 : decode cX7_mayRise 88 = .ok (.iadd, 1) := by decide +kernel
theorem dX7_mayRise_89 : decode cX7_mayRise 89 = .ok (.iload_n 3, 1) := by decide +kernel
theorem dX7_mayRise_90 : decode cX7_mayRise 90 = .ok (.if_icmp .lt 7, 3) := by decide +kernel
theorem dX7_mayRise_93 : decode cX7_mayRise 93 = .ok (.iconst 1, 1) := by decide +kernel
theorem dX7_mayRise_94 : decode cX7_mayRise 94 = .ok (.goto 4, 3) := by decide +kernel
theorem dX7_mayRise_97 : decode cX7_mayRise 97 = .ok (.iconst 0, 1) := by decide +kernel
theorem dX7_mayRise_98 : decode cX7_mayRise 98 = .ok (.ireturn, 1) := by decide +kernel
theorem dX7_goesOnBy_0 : decode cX7_goesOnBy 0 = .ok (.iconst 0, 1) := by decide +kernel
theorem dX7_goesOnBy_1 : decode cX7_goesOnBy 1 = .ok (.istore 4, 2) := by decide +kernel
theorem dX7_goesOnBy_3 : decode cX7_goesOnBy 3 = .ok (.iconst 0, 1) := by decide +kernel
theorem dX7_goesOnBy_4 : decode cX7_goesOnBy 4 = .ok (.istore 5, 2) := by decide +kernel
theorem dX7_goesOnBy_6 : decode cX7_goesOnBy 6 = .ok (.iload 5, 2) := by decide +kernel
theorem dX7_goesOnBy_8 : decode cX7_goesOnBy 8 = .ok (.aload_n 0, 1) := by decide +kernel
theorem dX7_goesOnBy_9 : decode cX7_goesOnBy 9 = .ok (.getfield 21, 3) := by decide +kernel
theorem dX7_goesOnBy_12 : decode cX7_goesOnBy 12 = .ok (.getfield 40, 3) := by decide +kernel
theorem dX7_goesOnBy_15 : decode cX7_goesOnBy 15 = .ok (.getfield 83, 3) := by decide +kernel
theorem dX7_goesOnBy_18 : decode cX7_goesOnBy 18 = .ok (.if_icmp .ge 89, 3) := by decide +kernel
theorem dX7_goesOnBy_21 : decode cX7_goesOnBy 21 = .ok (.iload 4, 2) := by decide +kernel
theorem dX7_goesOnBy_23 : decode cX7_goesOnBy 23 = .ok (.ifCond .eq 10, 3) := by decide +kernel
theorem dX7_goesOnBy_26 : decode cX7_goesOnBy 26 = .ok (.aload_n 0, 1) := by decide +kernel
theorem dX7_goesOnBy_27 : decode cX7_goesOnBy 27 = .ok (.getfield 52, 3) := by decide +kernel
theorem dX7_goesOnBy_30 : decode cX7_goesOnBy 30 = .ok (.ifCond .eq 77, 3) := by decide +kernel
theorem dX7_goesOnBy_33 : decode cX7_goesOnBy 33 = .ok (.aload_n 0, 1) := by decide +kernel
theorem dX7_goesOnBy_34 : decode cX7_goesOnBy 34 = .ok (.getfield 11, 3) := by decide +kernel
theorem dX7_goesOnBy_37 : decode cX7_goesOnBy 37 = .ok (.iload_n 2, 1) := by decide +kernel
theorem dX7_goesOnBy_38 : decode cX7_goesOnBy 38 = .ok (.iconst 1, 1) := by decide +kernel
theorem dX7_goesOnBy_39 : decode cX7_goesOnBy 39 = .ok (.iadd, 1) := by decide +kernel
theorem dX7_goesOnBy_40 : decode cX7_goesOnBy 40 = .ok (.aaload, 1) := by decide +kernel
theorem dX7_goesOnBy_41 : decode cX7_goesOnBy 41 = .ok (.aload_n 0, 1) := by decide +kernel
theorem dX7_goesOnBy_42 : decode cX7_goesOnBy 42 = .ok (.getfield 11, 3) := by decide +kernel
theorem dX7_goesOnBy_45 : decode cX7_goesOnBy 45 = .ok (.iload_n 2, 1) := by decide +kernel
theorem dX7_goesOnBy_46 : decode cX7_goesOnBy 46 = .ok (.aaload, 1) := by decide +kernel
theorem dX7_goesOnBy_47 : decode cX7_goesOnBy 47 = .ok (.invokevirtual 26, 3) := by decide +kernel
theorem dX7_goesOnBy_50 : decode cX7_goesOnBy 50 = .ok (.aload_n 0, 1) := by decide +kernel
theorem dX7_goesOnBy_51 : decode cX7_goesOnBy 51 = .ok (.getfield 21, 3) := by decide +kernel
theorem dX7_goesOnBy_54 : decode cX7_goesOnBy 54 = .ok (.aload_n 0, 1) := by decide +kernel
theorem dX7_goesOnBy_55 : decode cX7_goesOnBy 55 = .ok (.getfield 11, 3) := by decide +kernel
theorem dX7_goesOnBy_58 : decode cX7_goesOnBy 58 = .ok (.iload_n 2, 1) := by decide +kernel
theorem dX7_goesOnBy_59 : decode cX7_goesOnBy 59 = .ok (.iconst 1, 1) := by decide +kernel
theorem dX7_goesOnBy_60 : decode cX7_goesOnBy 60 = .ok (.iadd, 1) := by decide +kernel
theorem dX7_goesOnBy_61 : decode cX7_goesOnBy 61 = .ok (.aaload, 1) := by decide +kernel
theorem dX7_goesOnBy_62 : decode cX7_goesOnBy 62 = .ok (.iload_n 1, 1) := by decide +kernel
theorem dX7_goesOnBy_63 : decode cX7_goesOnBy 63 = .ok (.iload 5, 2) := by decide +kernel
theorem dX7_goesOnBy_65 : decode cX7_goesOnBy 65 = .ok (.invokevirtual 86, 3) := by decide +kernel
theorem dX7_goesOnBy_68 : decode cX7_goesOnBy 68 = .ok (.iconst 2, 1) := by decide +kernel
theorem dX7_goesOnBy_69 : decode cX7_goesOnBy 69 = .ok (.if_icmp .ne 32, 3) := by decide +kernel
theorem dX7_goesOnBy_72 : decode cX7_goesOnBy 72 = .ok (.iconst 1, 1) := by decide +kernel
theorem dX7_goesOnBy_73 : decode cX7_goesOnBy 73 = .ok (.istore 4, 2) := by decide +kernel
theorem dX7_goesOnBy_75 : decode cX7_goesOnBy 75 = .ok (.aload_n 0, 1) := by decide +kernel
theorem dX7_goesOnBy_76 : decode cX7_goesOnBy 76 = .ok (.getfield 17, 3) := by decide +kernel
theorem dX7_goesOnBy_79 : decode cX7_goesOnBy 79 = .ok (.iload_n 2, 1) := by decide +kernel
theorem dX7_goesOnBy_80 : decode cX7_goesOnBy 80 = .ok (.bipush 8, 2) := by decide +kernel
theorem dX7_goesOnBy_82 : decode cX7_goesOnBy 82 = .ok (.iload_n 1, 1) := by decide +kernel
theorem dX7_goesOnBy_83 : decode cX7_goesOnBy 83 = .ok (.imul, 1) := by decide +kernel
theorem dX7_goesOnBy_84 : decode cX7_goesOnBy 84 = .ok (.iload 5, 2) := by decide +kernel
theorem dX7_goesOnBy_86 : decode cX7_goesOnBy 86 = .ok (.iadd, 1) := by decide +kernel
theorem dX7_goesOnBy_87 : decode cX7_goesOnBy 87 = .ok (.iastore, 1) := by decide +kernel
theorem dX7_goesOnBy_88 : decode cX7_goesOnBy 88 = .ok (.aload_n 0, 1) := by decide +kernel
theorem dX7_goesOnBy_89 : decode cX7_goesOnBy 89 = .ok (.iload_n 2, 1) := by decide +kernel
theorem dX7_goesOnBy_90 : decode cX7_goesOnBy 90 = .ok (.iconst 1, 1) := by decide +kernel
theorem dX7_goesOnBy_91 : decode cX7_goesOnBy 91 = .ok (.iadd, 1) := by decide +kernel
theorem dX7_goesOnBy_92 : decode cX7_goesOnBy 92 = .ok (.iload_n 3, 1) := by decide +kernel
theorem dX7_goesOnBy_93 : decode cX7_goesOnBy 93 = .ok (.invokevirtual 55, 3) := by decide +kernel
theorem dX7_goesOnBy_96 : decode cX7_goesOnBy 96 = .ok (.ifCond .eq 5, 3) := by decide +kernel
theorem dX7_goesOnBy_99 : decode cX7_goesOnBy 99 = .ok (.iconst 1, 1) := by decide +kernel
theorem dX7_goesOnBy_100 : decode cX7_goesOnBy 100 = .ok (.ireturn, 1) := by decide +kernel
theorem dX7_goesOnBy_101 : decode cX7_goesOnBy 101 = .ok (.iinc 5 1, 3) := by decide +kernel
theorem dX7_goesOnBy_104 : decode cX7_goesOnBy 104 = .ok (.goto (-98), 3) := by decide +kernel
theorem dX7_goesOnBy_107 : decode cX7_goesOnBy 107 = .ok (.iconst 0, 1) := by decide +kernel
theorem dX7_goesOnBy_108 : decode cX7_goesOnBy 108 = .ok (.ireturn, 1) := by decide +kernel

