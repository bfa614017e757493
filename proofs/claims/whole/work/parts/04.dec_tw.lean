theorem dX4_init_0 : decode cX4_init 0 = .ok (.aload_n 0, 1) := by decide +kernel
theorem dX4_init_1 : decode cX4_init 1 = .ok (.invokespecial 1, 3) := by decide +kernel
theorem dX4_init_4 : decode cX4_init 4 = .ok (.aload_n 0, 1) := by decide +kernel
theorem dX4_init_5 : decode cX4_init 5 = .ok (.new 7, 3) := by decide +kernel
theorem dX4_init_8 : decode cX4_init 8 = .ok (.dup, 1) := by decide +kernel
theorem dX4_init_9 : decode cX4_init 9 = .ok (.invokespecial 9, 3) := by decide +kernel
theorem dX4_init_12 : decode cX4_init 12 = .ok (.putfield 10, 3) := by decide +kernel
theorem dX4_init_15 : decode cX4_init 15 = .ok (.aload_n 0, 1) := by decide +kernel
theorem dX4_init_16 : decode cX4_init 16 = .ok (.new 7, 3) := by decide +kernel
theorem dX4_init_19 : decode cX4_init 19 = .ok (.dup, 1) := by decide +kernel
theorem dX4_init_20 : decode cX4_init 20 = .ok (.invokespecial 9, 3) := by decide +kernel
theorem dX4_init_23 : decode cX4_init 23 = .ok (.putfield 16, 3) := by decide +kernel
theorem dX4_init_26 : decode cX4_init 26 = .ok (.aload_n 0, 1) := by decide +kernel
theorem dX4_init_27 : decode cX4_init 27 = .ok (.new 7, 3) := by decide +kernel
theorem dX4_init_30 : decode cX4_init 30 = .ok (.dup, 1) := by decide +kernel
theorem dX4_init_31 : decode cX4_init 31 = .ok (.invokespecial 9, 3) := by decide +kernel
theorem dX4_init_34 : decode cX4_init 34 = .ok (.putfield 19, 3) := by decide +kernel
theorem dX4_init_37 : decode cX4_init 37 = .ok (.aload_n 0, 1) := by decide +kernel
theorem dX4_init_38 : decode cX4_init 38 = .ok (.iconst 0, 1) := by decide +kernel
theorem dX4_init_39 : decode cX4_init 39 = .ok (.putfield 22, 3) := by decide +kernel
theorem dX4_init_42 : decode cX4_init 42 = .ok (.aload_n 0, 1) := by decide +kernel
theorem dX4_init_43 : decode cX4_init 43 = .ok (.new 26, 3) := by decide +kernel
theorem dX4_init_46 : decode cX4_init 46 = .ok (.dup, 1) := by decide +kernel
theorem dX4_init_47 : decode cX4_init 47 = .ok (.invokespecial 28, 3) := by decide +kernel
theorem dX4_init_50 : decode cX4_init 50 = .ok (.putfield 29, 3) := by decide +kernel
theorem dX4_init_53 : decode cX4_init 53 = .ok (.aload_n 0, 1) := by decide +kernel
theorem dX4_init_54 : decode cX4_init 54 = .ok (.new 33, 3) := by decide +kernel
theorem dX4_init_57 : decode cX4_init 57 = .ok (.dup, 1) := by decide +kernel
theorem dX4_init_58 : decode cX4_init 58 = .ok (.aload_n 0, 1) := by decide +kernel
theorem dX4_init_59 : decode cX4_init 59 = .ok (.getfield 29, 3) := by decide +kernel
theorem dX4_init_62 : decode cX4_init 62 = .ok (.aload_n 0, 1) := by decide +kernel
theorem dX4_init_63 : decode cX4_init 63 = .ok (.getfield 16, 3) := by decide +kernel
theorem dX4_init_66 : decode cX4_init 66 = .ok (.invokespecial 35, 3) := by decide +kernel
theorem dX4_init_69 : decode cX4_init 69 = .ok (.putfield 38, 3) := by decide +kernel
theorem dX4_init_72 : decode cX4_init 72 = .ok (.aload_n 0, 1) := by decide +kernel
theorem dX4_init_73 : decode cX4_init 73 = .ok (.new 42, 3) := by decide +kernel
theorem dX4_init_76 : decode cX4_init 76 = .ok (.dup, 1) := by decide +kernel
theorem dX4_init_77 : decode cX4_init 77 = .ok (.invokespecial 44, 3) := by decide +kernel
theorem dX4_init_80 : decode cX4_init 80 = .ok (.putfield 45, 3) := by decide +kernel
theorem dX4_init_83 : decode cX4_init 83 = .ok (.aload_n 0, 1) := by decide +kernel
theorem dX4_init_84 : decode cX4_init 84 = .ok (.bipush 7, 2) := by decide +kernel
theorem dX4_init_86 : decode cX4_init 86 = .ok (.newarray .int, 2) := by decide +kernel
theorem dX4_init_88 : decode cX4_init 88 = .ok (.putfield 49, 3) := by decide +kernel
theorem dX4_init_91 : decode cX4_init 91 = .ok (.return_, 1) := by decide +kernel
theorem dX4_clay_0 : decode cX4_clay 0 = .ok (.iload_n 1, 1) := by decide +kernel
theorem dX4_clay_1 : decode cX4_clay 1 = .ok (.iconst 1, 1) := by decide +kernel
theorem dX4_clay_2 : decode cX4_clay 2 = .ok (.bipush 20, 2) := by decide +kernel
theorem dX4_clay_4 : decode cX4_clay 4 = .ok (.invokestatic 53, 3) := by decide +kernel
theorem dX4_clay_7 : decode cX4_clay 7 = .ok (.ifCond .ne 9, 3) := by decide +kernel
theorem dX4_clay_10 : decode cX4_clay 10 = .ok (.aload_n 0, 1) := by decide +kernel
theorem dX4_clay_11 : decode cX4_clay 11 = .ok (.iconst 0, 1) := by decide +kernel
theorem dX4_clay_12 : decode cX4_clay 12 = .ok (.invokevirtual 57, 3) := by decide +kernel
theorem dX4_clay_15 : decode cX4_clay 15 = .ok (.ireturn, 1) := by decide +kernel
theorem dX4_clay_16 : decode cX4_clay 16 = .ok (.aload_n 0, 1) := by decide +kernel
theorem dX4_clay_17 : decode cX4_clay 17 = .ok (.getfield 10, 3) := by decide +kernel
theorem dX4_clay_20 : decode cX4_clay 20 = .ok (.getfield 61, 3) := by decide +kernel
theorem dX4_clay_23 : decode cX4_clay 23 = .ok (.istore_n 2, 1) := by decide +kernel
theorem dX4_clay_24 : decode cX4_clay 24 = .ok (.aload_n 0, 1) := by decide +kernel
theorem dX4_clay_25 : decode cX4_clay 25 = .ok (.getfield 10, 3) := by decide +kernel
theorem dX4_clay_28 : decode cX4_clay 28 = .ok (.iload_n 1, 1) := by decide +kernel
theorem dX4_clay_29 : decode cX4_clay 29 = .ok (.putfield 61, 3) := by decide +kernel
theorem dX4_clay_32 : decode cX4_clay 32 = .ok (.iload_n 2, 1) := by decide +kernel
theorem dX4_clay_33 : decode cX4_clay 33 = .ok (.ireturn, 1) := by decide +kernel
theorem dX4_pair_0 : decode cX4_pair 0 = .ok (.iload_n 1, 1) := by decide +kernel
theorem dX4_pair_1 : decode cX4_pair 1 = .ok (.iconst 0, 1) := by decide +kernel
theorem dX4_pair_2 : decode cX4_pair 2 = .ok (.iconst 5, 1) := by decide +kernel
theorem dX4_pair_3 : decode cX4_pair 3 = .ok (.invokestatic 53, 3) := by decide +kernel
theorem dX4_pair_6 : decode cX4_pair 6 = .ok (.ifCond .eq 23, 3) := by decide +kernel
theorem dX4_pair_9 : decode cX4_pair 9 = .ok (.iload_n 2, 1) := by decide +kernel
theorem dX4_pair_10 : decode cX4_pair 10 = .ok (.iconst 0, 1) := by decide +kernel
theorem dX4_pair_11 : decode cX4_pair 11 = .ok (.bipush 7, 2) := by decide +kernel
theorem dX4_pair_13 : decode cX4_pair 13 = .ok (.invokestatic 53, 3) := by decide +kernel
theorem dX4_pair_16 : decode cX4_pair 16 = .ok (.ifCond .eq 13, 3) := by decide +kernel
theorem dX4_pair_19 : decode cX4_pair 19 = .ok (.iload_n 3, 1) := by decide +kernel
theorem dX4_pair_20 : decode cX4_pair 20 = .ok (.iconst 0, 1) := by decide +kernel
theorem dX4_pair_21 : decode cX4_pair 21 = .ok (.bipush 7, 2) := by decide +kernel
theorem dX4_pair_23 : decode cX4_pair 23 = .ok (.invokestatic 53, 3) := by decide +kernel
theorem dX4_pair_26 : decode cX4_pair 26 = .ok (.ifCond .ne 9, 3) := by decide +kernel
theorem dX4_pair_29 : decode cX4_pair 29 = .ok (.aload_n 0, 1) := by decide +kernel
theorem dX4_pair_30 : decode cX4_pair 30 = .ok (.iconst 0, 1) := by decide +kernel
theorem dX4_pair_31 : decode cX4_pair 31 = .ok (.invokevirtual 57, 3) := by decide +kernel
theorem dX4_pair_34 : decode cX4_pair 34 = .ok (.ireturn, 1) := by decide +kernel
theorem dX4_pair_35 : decode cX4_pair 35 = .ok (.aload_n 0, 1) := by decide +kernel
theorem dX4_pair_36 : decode cX4_pair 36 = .ok (.getfield 10, 3) := by decide +kernel
theorem dX4_pair_39 : decode cX4_pair 39 = .ok (.getfield 65, 3) := by decide +kernel
theorem dX4_pair_42 : decode cX4_pair 42 = .ok (.iload_n 1, 1) := by decide +kernel
theorem dX4_pair_43 : decode cX4_pair 43 = .ok (.iaload, 1) := by decide +kernel
theorem dX4_pair_44 : decode cX4_pair 44 = .ok (.istore 4, 2) := by decide +kernel
theorem dX4_pair_46 : decode cX4_pair 46 = .ok (.aload_n 0, 1) := by decide +kernel
theorem dX4_pair_47 : decode cX4_pair 47 = .ok (.getfield 10, 3) := by decide +kernel
theorem dX4_pair_50 : decode cX4_pair 50 = .ok (.getfield 65, 3) := by decide +kernel
theorem dX4_pair_53 : decode cX4_pair 53 = .ok (.iload_n 1, 1) := by decide +kernel
theorem dX4_pair_54 : decode cX4_pair 54 = .ok (.bipush 10, 2) := by decide +kernel
theorem dX4_pair_56 : decode cX4_pair 56 = .ok (.iload_n 2, 1) := by decide +kernel
theorem dX4_pair_57 : decode cX4_pair 57 = .ok (.imul, 1) := by decide +kernel
theorem dX4_pair_58 : decode cX4_pair 58 = .ok (.iload_n 3, 1) := by decide +kernel
theorem dX4_pair_59 : decode cX4_pair 59 = .ok (.iadd, 1) := by decide +kernel
theorem dX4_pair_60 : decode cX4_pair 60 = .ok (.iastore, 1) := by decide +kernel
theorem dX4_pair_61 : decode cX4_pair 61 = .ok (.iload 4, 2) := by decide +kernel
theorem dX4_pair_63 : decode cX4_pair 63 = .ok (.ireturn, 1) := by decide +kernel
theorem dX4_listed_0 : decode cX4_listed 0 = .ok (.iload_n 1, 1) := by decide +kernel
theorem dX4_listed_1 : decode cX4_listed 1 = .ok (.iconst 0, 1) := by decide +kernel
theorem dX4_listed_2 : decode cX4_listed 2 = .ok (.iconst 5, 1) := by decide +kernel
theorem dX4_listed_3 : decode cX4_listed 3 = .ok (.invokestatic 53, 3) := by decide +kernel
theorem dX4_listed_6 : decode cX4_listed 6 = .ok (.ifCond .ne 9, 3) := by decide +kernel
theorem dX4_listed_9 : decode cX4_listed 9 = .ok (.aload_n 0, 1) := by decide +kernel
theorem dX4_listed_10 : decode cX4_listed 10 = .ok (.iconst 0, 1) := by decide +kernel
theorem dX4_listed_11 : decode cX4_listed 11 = .ok (.invokevirtual 57, 3) := by decide +kernel
theorem dX4_listed_14 : decode cX4_listed 14 = .ok (.ireturn, 1) := by decide +kernel
theorem dX4_listed_15 : decode cX4_listed 15 = .ok (.aload_n 0, 1) := by decide +kernel
theorem dX4_listed_16 : decode cX4_listed 16 = .ok (.getfield 10, 3) := by decide +kernel
theorem dX4_listed_19 : decode cX4_listed 19 = .ok (.getfield 65, 3) := by decide +kernel
theorem dX4_listed_22 : decode cX4_listed 22 = .ok (.iload_n 1, 1) := by decide +kernel
theorem dX4_listed_23 : decode cX4_listed 23 = .ok (.iaload, 1) := by decide +kernel
theorem dX4_listed_24 : decode cX4_listed 24 = .ok (.ireturn, 1) := by decide +kernel
theorem dX4_potter_0 : decode cX4_potter 0 = .ok (.iload_n 1, 1) := by decide +kernel
theorem dX4_potter_1 : decode cX4_potter 1 = .ok (.iconst 0, 1) := by decide +kernel
theorem dX4_potter_2 : decode cX4_potter 2 = .ok (.bipush 6, 2) := by decide +kernel
theorem dX4_potter_4 : decode cX4_potter 4 = .ok (.invokestatic 53, 3) := by decide +kernel
theorem dX4_potter_7 : decode cX4_potter 7 = .ok (.ifCond .eq 13, 3) := by decide +kernel
theorem dX4_potter_10 : decode cX4_potter 10 = .ok (.iload_n 2, 1) := by decide +kernel
theorem dX4_potter_11 : decode cX4_potter 11 = .ok (.iconst 0, 1) := by decide +kernel
theorem dX4_potter_12 : decode cX4_potter 12 = .ok (.bipush 99, 2) := by decide +kernel
theorem dX4_potter_14 : decode cX4_potter 14 = .ok (.invokestatic 53, 3) := by decide +kernel
theorem dX4_potter_17 : decode cX4_potter 17 = .ok (.ifCond .ne 9, 3) := by decide +kernel
theorem dX4_potter_20 : decode cX4_potter 20 = .ok (.aload_n 0, 1) := by decide +kernel
theorem dX4_potter_21 : decode cX4_potter 21 = .ok (.iconst 0, 1) := by decide +kernel
theorem dX4_potter_22 : decode cX4_potter 22 = .ok (.invokevirtual 57, 3) := by decide +kernel
theorem dX4_potter_25 : decode cX4_potter 25 = .ok (.ireturn, 1) := by decide +kernel
theorem dX4_potter_26 : decode cX4_potter 26 = .ok (.aload_n 0, 1) := by decide +kernel
theorem dX4_potter_27 : decode cX4_potter 27 = .ok (.getfield 10, 3) := by decide +kernel
theorem dX4_potter_30 : decode cX4_potter 30 = .ok (.invokevirtual 68, 3) := by decide +kernel
theorem dX4_potter_33 : decode cX4_potter 33 = .ok (.ifCond .eq 9, 3) := by decide +kernel
theorem dX4_potter_36 : decode cX4_potter 36 = .ok (.aload_n 0, 1) := by decide +kernel
theorem dX4_potter_37 : decode cX4_potter 37 = .ok (.iconst 1, 1) := by decide +kernel
theorem dX4_potter_38 : decode cX4_potter 38 = .ok (.invokevirtual 57, 3) := by decide +kernel
theorem dX4_potter_41 : decode cX4_potter 41 = .ok (.ireturn, 1) := by decide +kernel
theorem dX4_potter_42 : decode cX4_potter 42 = .ok (.aload_n 0, 1) := by decide +kernel
theorem dX4_potter_43 : decode cX4_potter 43 = .ok (.getfield 10, 3) := by decide +kernel
theorem dX4_potter_46 : decode cX4_potter 46 = .ok (.iload_n 1, 1) := by decide +kernel
theorem dX4_potter_47 : decode cX4_potter 47 = .ok (.iload_n 2, 1) := by decide +kernel
theorem dX4_potter_48 : decode cX4_potter 48 = .ok (.bipush 20, 2) := by decide +kernel
theorem dX4_potter_50 : decode cX4_potter 50 = .ok (.iconst 0, 1) := by decide +kernel
theorem dX4_potter_51 : decode cX4_potter 51 = .ok (.invokevirtual 72, 3) := by decide +kernel
theorem dX4_potter_54 : decode cX4_potter 54 = .ok (.ireturn, 1) := by decide +kernel
theorem dX4_of_0 : decode cX4_of 0 = .ok (.aload_n 0, 1) := by decide +kernel
theorem dX4_of_1 : decode cX4_of 1 = .ok (.getfield 10, 3) := by decide +kernel
theorem dX4_of_4 : decode cX4_of 4 = .ok (.iload_n 1, 1) := by decide +kernel
theorem dX4_of_5 : decode cX4_of 5 = .ok (.invokevirtual 76, 3) := by decide +kernel
theorem dX4_of_8 : decode cX4_of 8 = .ok (.ifCond .eq 13, 3) := by decide +kernel
theorem dX4_of_11 : decode cX4_of 11 = .ok (.iload_n 2, 1) := by decide +kernel
theorem dX4_of_12 : decode cX4_of 12 = .ok (.iconst 0, 1) := by decide +kernel
theorem dX4_of_13 : decode cX4_of 13 = .ok (.bipush 9, 2) := by decide +kernel
theorem dX4_of_15 : decode cX4_of 15 = .ok (.invokestatic 53, 3) := by decide +kernel
theorem dX4_of_18 : decode cX4_of 18 = .ok (.ifCond .ne 9, 3) := by decide +kernel
theorem dX4_of_21 : decode cX4_of 21 = .ok (.aload_n 0, 1) := by decide +kernel
theorem dX4_of_22 : decode cX4_of 22 = .ok (.iconst 0, 1) := by decide +kernel
theorem dX4_of_23 : decode cX4_of 23 = .ok (.invokevirtual 57, 3) := by decide +kernel
theorem dX4_of_26 : decode cX4_of 26 = .ok (.ireturn, 1) := by decide +kernel
theorem dX4_of_27 : decode cX4_of 27 = .ok (.aload_n 0, 1) := by decide +kernel
theorem dX4_of_28 : decode cX4_of 28 = .ok (.getfield 10, 3) := by decide +kernel
theorem dX4_of_31 : decode cX4_of 31 = .ok (.iload_n 1, 1) := by decide +kernel
theorem dX4_of_32 : decode cX4_of 32 = .ok (.iload_n 2, 1) := by decide +kernel
theorem dX4_of_33 : decode cX4_of 33 = .ok (.invokevirtual 80, 3) := by decide +kernel
theorem dX4_of_36 : decode cX4_of 36 = .ok (.ireturn, 1) := by decide +kernel
theorem dX4_change_0 : decode cX4_change 0 = .ok (.aload_n 0, 1) := by decide +kernel
theorem dX4_change_1 : decode cX4_change 1 = .ok (.getfield 10, 3) := by decide +kernel
theorem dX4_change_4 : decode cX4_change 4 = .ok (.iload_n 1, 1) := by decide +kernel
theorem dX4_change_5 : decode cX4_change 5 = .ok (.invokevirtual 76, 3) := by decide +kernel
theorem dX4_change_8 : decode cX4_change 8 = .ok (.ifCond .eq 25, 3) := by decide +kernel
theorem dX4_change_11 : decode cX4_change 11 = .ok (.iload_n 2, 1) := by decide +kernel
theorem dX4_change_12 : decode cX4_change 12 = .ok (.iconst 0, 1) := by decide +kernel
theorem dX4_change_13 : decode cX4_change 13 = .ok (.iconst 5, 1) := by decide +kernel
theorem dX4_change_14 : decode cX4_change 14 = .ok (.invokestatic 53, 3) := by decide +kernel
theorem dX4_change_17 : decode cX4_change 17 = .ok (.ifCond .eq 16, 3) := by decide +kernel
theorem dX4_change_20 : decode cX4_change 20 = .ok (.iload_n 3, 1) := by decide +kernel
theorem dX4_change_21 : decode cX4_change 21 = .ok (.iconst 0, 1) := by decide +kernel
theorem dX4_change_22 : decode cX4_change 22 = .ok (.getstatic 84, 3) := by decide +kernel
theorem dX4_change_25 : decode cX4_change 25 = .ok (.iload_n 2, 1) := by decide +kernel
theorem dX4_change_26 : decode cX4_change 26 = .ok (.iaload, 1) := by decide +kernel
theorem dX4_change_27 : decode cX4_change 27 = .ok (.invokestatic 53, 3) := by decide +kernel
theorem dX4_change_30 : decode cX4_change 30 = .ok (.ifCond .ne 9, 3) := by decide +kernel
theorem dX4_change_33 : decode cX4_change 33 = .ok (.aload_n 0, 1) := by decide +kernel
theorem dX4_change_34 : decode cX4_change 34 = .ok (.iconst 0, 1) := by decide +kernel
theorem dX4_change_35 : decode cX4_change 35 = .ok (.invokevirtual 57, 3) := by decide +kernel
theorem dX4_change_38 : decode cX4_change 38 = .ok (.ireturn, 1) := by decide +kernel
theorem dX4_change_39 : decode cX4_change 39 = .ok (.bipush 8, 2) := by decide +kernel
theorem dX4_change_41 : decode cX4_change 41 = .ok (.iload_n 2, 1) := by decide +kernel
theorem dX4_change_42 : decode cX4_change 42 = .ok (.imul, 1) := by decide +kernel
theorem dX4_change_43 : decode cX4_change 43 = .ok (.iload_n 1, 1) := by decide +kernel
theorem dX4_change_44 : decode cX4_change 44 = .ok (.iadd, 1) := by decide +kernel
theorem dX4_change_45 : decode cX4_change 45 = .ok (.istore 4, 2) := by decide +kernel
theorem dX4_change_47 : decode cX4_change 47 = .ok (.aload_n 0, 1) := by decide +kernel
theorem dX4_change_48 : decode cX4_change 48 = .ok (.getfield 10, 3) := by decide +kernel
theorem dX4_change_51 : decode cX4_change 51 = .ok (.getfield 87, 3) := by decide +kernel
theorem dX4_change_54 : decode cX4_change 54 = .ok (.iload 4, 2) := by decide +kernel
theorem dX4_change_56 : decode cX4_change 56 = .ok (.iaload, 1) := by decide +kernel
theorem dX4_change_57 : decode cX4_change 57 = .ok (.istore 5, 2) := by decide +kernel
theorem dX4_change_59 : decode cX4_change 59 = .ok (.aload_n 0, 1) := by decide +kernel
theorem dX4_change_60 : decode cX4_change 60 = .ok (.getfield 10, 3) := by decide +kernel
theorem dX4_change_63 : decode cX4_change 63 = .ok (.getfield 87, 3) := by decide +kernel
theorem dX4_change_66 : decode cX4_change 66 = .ok (.iload 4, 2) := by decide +kernel
theorem dX4_change_68 : decode cX4_change 68 = .ok (.iload_n 3, 1) := by decide +kernel
theorem dX4_change_69 : decode cX4_change 69 = .ok (.iastore, 1) := by decide +kernel
theorem dX4_change_70 : decode cX4_change 70 = .ok (.iload 5, 2) := by decide +kernel
theorem dX4_change_72 : decode cX4_change 72 = .ok (.ireturn, 1) := by decide +kernel
theorem dX4_rift_0 : decode cX4_rift 0 = .ok (.aload_n 0, 1) := by decide +kernel
theorem dX4_rift_1 : decode cX4_rift 1 = .ok (.getfield 10, 3) := by decide +kernel
theorem dX4_rift_4 : decode cX4_rift 4 = .ok (.iload_n 1, 1) := by decide +kernel
theorem dX4_rift_5 : decode cX4_rift 5 = .ok (.iload_n 2, 1) := by decide +kernel
theorem dX4_rift_6 : decode cX4_rift 6 = .ok (.invokevirtual 90, 3) := by decide +kernel
theorem dX4_rift_9 : decode cX4_rift 9 = .ok (.ifCond .eq 13, 3) := by decide +kernel
theorem dX4_rift_12 : decode cX4_rift 12 = .ok (.iload_n 3, 1) := by decide +kernel
theorem dX4_rift_13 : decode cX4_rift 13 = .ok (.iconst 0, 1) := by decide +kernel
theorem dX4_rift_14 : decode cX4_rift 14 = .ok (.bipush 99, 2) := by decide +kernel
theorem dX4_rift_16 : decode cX4_rift 16 = .ok (.invokestatic 53, 3) := by decide +kernel
theorem dX4_rift_19 : decode cX4_rift 19 = .ok (.ifCond .ne 9, 3) := by decide +kernel
theorem dX4_rift_22 : decode cX4_rift 22 = .ok (.aload_n 0, 1) := by decide +kernel
theorem dX4_rift_23 : decode cX4_rift 23 = .ok (.iconst 0, 1) := by decide +kernel
theorem dX4_rift_24 : decode cX4_rift 24 = .ok (.invokevirtual 57, 3) := by decide +kernel
theorem dX4_rift_27 : decode cX4_rift 27 = .ok (.ireturn, 1) := by decide +kernel
theorem dX4_rift_28 : decode cX4_rift 28 = .ok (.aload_n 0, 1) := by decide +kernel
theorem dX4_rift_29 : decode cX4_rift 29 = .ok (.getfield 10, 3) := by decide +kernel
theorem dX4_rift_32 : decode cX4_rift 32 = .ok (.iload_n 1, 1) := by decide +kernel
theorem dX4_rift_33 : decode cX4_rift 33 = .ok (.iload_n 2, 1) := by decide +kernel
theorem dX4_rift_34 : decode cX4_rift 34 = .ok (.invokevirtual 94, 3) := by decide +kernel
theorem dX4_rift_37 : decode cX4_rift 37 = .ok (.istore 4, 2) := by decide +kernel
theorem dX4_rift_39 : decode cX4_rift 39 = .ok (.aload_n 0, 1) := by decide +kernel
theorem dX4_rift_40 : decode cX4_rift 40 = .ok (.getfield 10, 3) := by decide +kernel
theorem dX4_rift_43 : decode cX4_rift 43 = .ok (.iload_n 1, 1) := by decide +kernel
theorem dX4_rift_44 : decode cX4_rift 44 = .ok (.iload_n 2, 1) := by decide +kernel
theorem dX4_rift_45 : decode cX4_rift 45 = .ok (.iload_n 3, 1) := by decide +kernel
theorem dX4_rift_46 : decode cX4_rift 46 = .ok (.invokevirtual 97, 3) := by decide +kernel
theorem dX4_rift_49 : decode cX4_rift 49 = .ok (.iload 4, 2) := by decide +kernel
theorem dX4_rift_51 : decode cX4_rift 51 = .ok (.ireturn, 1) := by decide +kernel
theorem dX4_two_0 : decode cX4_two 0 = .ok (.aload_n 0, 1) := by decide +kernel
theorem dX4_two_1 : decode cX4_two 1 = .ok (.getfield 10, 3) := by decide +kernel
theorem dX4_two_4 : decode cX4_two 4 = .ok (.iload_n 1, 1) := by decide +kernel
theorem dX4_two_5 : decode cX4_two 5 = .ok (.iload_n 2, 1) := by decide +kernel
theorem dX4_two_6 : decode cX4_two 6 = .ok (.invokevirtual 90, 3) := by decide +kernel
theorem dX4_two_9 : decode cX4_two 9 = .ok (.ifCond .eq 12, 3) := by decide +kernel
theorem dX4_two_12 : decode cX4_two 12 = .ok (.iload_n 3, 1) := by decide +kernel
theorem dX4_two_13 : decode cX4_two 13 = .ok (.iconst 0, 1) := by decide +kernel
theorem dX4_two_14 : decode cX4_two 14 = .ok (.iconst 3, 1) := by decide +kernel
theorem dX4_two_15 : decode cX4_two 15 = .ok (.invokestatic 53, 3) := by decide +kernel
theorem dX4_two_18 : decode cX4_two 18 = .ok (.ifCond .ne 9, 3) := by decide +kernel
theorem dX4_two_21 : decode cX4_two 21 = .ok (.aload_n 0, 1) := by decide +kernel
theorem dX4_two_22 : decode cX4_two 22 = .ok (.iconst 0, 1) := by decide +kernel
theorem dX4_two_23 : decode cX4_two 23 = .ok (.invokevirtual 57, 3) := by decide +kernel
theorem dX4_two_26 : decode cX4_two 26 = .ok (.ireturn, 1) := by decide +kernel
theorem dX4_two_27 : decode cX4_two 27 = .ok (.iload_n 3, 1) := by decide +kernel
theorem dX4_two_28 : decode cX4_two 28 = .ok (.tableswitch 65 0 2 #[28, 38, 55], 28) := by decide +kernel
theorem dX4_two_56 : decode cX4_two 56 = .ok (.aload_n 0, 1) := by decide +kernel
theorem dX4_two_57 : decode cX4_two 57 = .ok (.getfield 10, 3) := by decide +kernel
theorem dX4_two_60 : decode cX4_two 60 = .ok (.iload_n 1, 1) := by decide +kernel
theorem dX4_two_61 : decode cX4_two 61 = .ok (.iload_n 2, 1) := by decide +kernel
theorem dX4_two_62 : decode cX4_two 62 = .ok (.invokevirtual 94, 3) := by decide +kernel
theorem dX4_two_65 : decode cX4_two 65 = .ok (.ireturn, 1) := by decide +kernel
theorem dX4_two_66 : decode cX4_two 66 = .ok (.aload_n 0, 1) := by decide +kernel
theorem dX4_two_67 : decode cX4_two 67 = .ok (.getfield 10, 3) := by decide +kernel
theorem dX4_two_70 : decode cX4_two 70 = .ok (.iload_n 1, 1) := by decide +kernel
theorem dX4_two_71 : decode cX4_two 71 = .ok (.iload_n 2, 1) := by decide +kernel
theorem dX4_two_72 : decode cX4_two 72 = .ok (.aload_n 0, 1) := by decide +kernel
theorem dX4_two_73 : decode cX4_two 73 = .ok (.getfield 10, 3) := by decide +kernel
theorem dX4_two_76 : decode cX4_two 76 = .ok (.getfield 61, 3) := by decide +kernel
theorem dX4_two_79 : decode cX4_two 79 = .ok (.invokevirtual 101, 3) := by decide +kernel
theorem dX4_two_82 : decode cX4_two 82 = .ok (.ireturn, 1) := by decide +kernel
theorem dX4_two_83 : decode cX4_two 83 = .ok (.aload_n 0, 1) := by decide +kernel
theorem dX4_two_84 : decode cX4_two 84 = .ok (.getfield 10, 3) := by decide +kernel
theorem dX4_two_87 : decode cX4_two 87 = .ok (.iload_n 1, 1) := by decide +kernel
theorem dX4_two_88 : decode cX4_two 88 = .ok (.iload_n 2, 1) := by decide +kernel
theorem dX4_two_89 : decode cX4_two 89 = .ok (.invokevirtual 105, 3) := by decide +kernel
theorem dX4_two_92 : decode cX4_two 92 = .ok (.ireturn, 1) := by decide +kernel
theorem dX4_two_93 : decode cX4_two 93 = .ok (.aload_n 0, 1) := by decide +kernel
theorem dX4_two_94 : decode cX4_two 94 = .ok (.getfield 10, 3) := by decide +kernel
theorem dX4_two_97 : decode cX4_two 97 = .ok (.iload_n 1, 1) := by decide +kernel
theorem dX4_two_98 : decode cX4_two 98 = .ok (.iload_n 2, 1) := by decide +kernel
theorem dX4_two_99 : decode cX4_two 99 = .ok (.aload_n 0, 1) := by decide +kernel
theorem dX4_two_100 : decode cX4_two 100 = .ok (.getfield 10, 3) := by decide +kernel
theorem dX4_two_103 : decode cX4_two 103 = .ok (.getfield 61, 3) := by decide +kernel
theorem dX4_two_106 : decode cX4_two 106 = .ok (.invokevirtual 101, 3) := by decide +kernel
theorem dX4_two_109 : decode cX4_two 109 = .ok (.aload_n 0, 1) := by decide +kernel
theorem dX4_two_110 : decode cX4_two 110 = .ok (.getfield 10, 3) := by decide +kernel
theorem dX4_two_113 : decode cX4_two 113 = .ok (.iload_n 1, 1) := by decide +kernel
theorem dX4_two_114 : decode cX4_two 114 = .ok (.iload_n 2, 1) := by decide +kernel
theorem dX4_two_115 : decode cX4_two 115 = .ok (.invokevirtual 105, 3) := by decide +kernel
theorem dX4_two_118 : decode cX4_two 118 = .ok (.invokestatic 108, 3) := by decide +kernel
theorem dX4_two_121 : decode cX4_two 121 = .ok (.ifCond .eq 7, 3) := by decide +kernel
theorem dX4_two_124 : decode cX4_two 124 = .ok (.iconst 1, 1) := by decide +kernel
theorem dX4_two_125 : decode cX4_two 125 = .ok (.goto 4, 3) := by decide +kernel
theorem dX4_two_128 : decode cX4_two 128 = .ok (.iconst 0, 1) := by decide +kernel
theorem dX4_two_129 : decode cX4_two 129 = .ok (.ireturn, 1) := by decide +kernel
theorem dX4_go_0 : decode cX4_go 0 = .ok (.iload_n 1, 1) := by decide +kernel
theorem dX4_go_1 : decode cX4_go 1 = .ok (.iconst 1, 1) := by decide +kernel
theorem dX4_go_2 : decode cX4_go 2 = .ok (.bipush 60, 2) := by decide +kernel
theorem dX4_go_4 : decode cX4_go 4 = .ok (.invokestatic 53, 3) := by decide +kernel
theorem dX4_go_7 : decode cX4_go 7 = .ok (.ifCond .ne 9, 3) := by decide +kernel
theorem dX4_go_10 : decode cX4_go 10 = .ok (.aload_n 0, 1) := by decide +kernel
theorem dX4_go_11 : decode cX4_go 11 = .ok (.iconst 0, 1) := by decide +kernel
theorem dX4_go_12 : decode cX4_go 12 = .ok (.invokevirtual 57, 3) := by decide +kernel
theorem dX4_go_15 : decode cX4_go 15 = .ok (.ireturn, 1) := by decide +kernel
theorem dX4_go_16 : decode cX4_go 16 = .ok (.aload_n 0, 1) := by decide +kernel
theorem dX4_go_17 : decode cX4_go 17 = .ok (.getfield 10, 3) := by decide +kernel
theorem dX4_go_20 : decode cX4_go 20 = .ok (.getfield 111, 3) := by decide +kernel
theorem dX4_go_23 : decode cX4_go 23 = .ok (.iload_n 1, 1) := by decide +kernel
theorem dX4_go_24 : decode cX4_go 24 = .ok (.iadd, 1) := by decide +kernel
theorem dX4_go_25 : decode cX4_go 25 = .ok (.ldc 114, 2) := by decide +kernel
theorem dX4_go_27 : decode cX4_go 27 = .ok (.if_icmp .le 9, 3) := by decide +kernel
theorem dX4_go_30 : decode cX4_go 30 = .ok (.aload_n 0, 1) := by decide +kernel
theorem dX4_go_31 : decode cX4_go 31 = .ok (.iconst 4, 1) := by decide +kernel
theorem dX4_go_32 : decode cX4_go 32 = .ok (.invokevirtual 57, 3) := by decide +kernel
theorem dX4_go_35 : decode cX4_go 35 = .ok (.ireturn, 1) := by decide +kernel
theorem dX4_go_36 : decode cX4_go 36 = .ok (.aload_n 0, 1) := by decide +kernel
theorem dX4_go_37 : decode cX4_go 37 = .ok (.getfield 10, 3) := by decide +kernel
theorem dX4_go_40 : decode cX4_go 40 = .ok (.iload_n 1, 1) := by decide +kernel
theorem dX4_go_41 : decode cX4_go 41 = .ok (.invokevirtual 115, 3) := by decide +kernel
theorem dX4_go_44 : decode cX4_go 44 = .ok (.aload_n 0, 1) := by decide +kernel
theorem dX4_go_45 : decode cX4_go 45 = .ok (.getfield 10, 3) := by decide +kernel
theorem dX4_go_48 : decode cX4_go 48 = .ok (.getfield 119, 3) := by decide +kernel
theorem dX4_go_51 : decode cX4_go 51 = .ok (.ireturn, 1) := by decide +kernel
theorem dX4_now_0 : decode cX4_now 0 = .ok (.iload_n 1, 1) := by decide +kernel
theorem dX4_now_1 : decode cX4_now 1 = .ok (.tableswitch 123 0 7 #[47, 55, 63, 71, 79, 89, 97, 107], 47) := by decide +kernel
theorem dX4_now_48 : decode cX4_now 48 = .ok (.aload_n 0, 1) := by decide +kernel
theorem dX4_now_49 : decode cX4_now 49 = .ok (.getfield 10, 3) := by decide +kernel
theorem dX4_now_52 : decode cX4_now 52 = .ok (.getfield 111, 3) := by decide +kernel
theorem dX4_now_55 : decode cX4_now 55 = .ok (.ireturn, 1) := by decide +kernel
theorem dX4_now_56 : decode cX4_now 56 = .ok (.aload_n 0, 1) := by decide +kernel
theorem dX4_now_57 : decode cX4_now 57 = .ok (.getfield 10, 3) := by decide +kernel
theorem dX4_now_60 : decode cX4_now 60 = .ok (.getfield 119, 3) := by decide +kernel
theorem dX4_now_63 : decode cX4_now 63 = .ok (.ireturn, 1) := by decide +kernel
theorem dX4_now_64 : decode cX4_now 64 = .ok (.aload_n 0, 1) := by decide +kernel
theorem dX4_now_65 : decode cX4_now 65 = .ok (.getfield 10, 3) := by decide +kernel
theorem dX4_now_68 : decode cX4_now 68 = .ok (.getfield 122, 3) := by decide +kernel
theorem dX4_now_71 : decode cX4_now 71 = .ok (.ireturn, 1) := by decide +kernel
theorem dX4_now_72 : decode cX4_now 72 = .ok (.aload_n 0, 1) := by decide +kernel
theorem dX4_now_73 : decode cX4_now 73 = .ok (.getfield 10, 3) := by decide +kernel
theorem dX4_now_76 : decode cX4_now 76 = .ok (.getfield 125, 3) := by decide +kernel
theorem dX4_now_79 : decode cX4_now 79 = .ok (.ireturn, 1) := by decide +kernel
theorem dX4_now_80 : decode cX4_now 80 = .ok (.aload_n 0, 1) := by decide +kernel
theorem dX4_now_81 : decode cX4_now 81 = .ok (.getfield 10, 3) := by decide +kernel
theorem dX4_now_84 : decode cX4_now 84 = .ok (.bipush 8, 2) := by decide +kernel
theorem dX4_now_86 : decode cX4_now 86 = .ok (.invokevirtual 128, 3) := by decide +kernel
theorem dX4_now_89 : decode cX4_now 89 = .ok (.ireturn, 1) := by decide +kernel
theorem dX4_now_90 : decode cX4_now 90 = .ok (.aload_n 0, 1) := by decide +kernel
theorem dX4_now_91 : decode cX4_now 91 = .ok (.getfield 10, 3) := by decide +kernel
theorem dX4_now_94 : decode cX4_now 94 = .ok (.invokevirtual 131, 3) := by decide +kernel
theorem dX4_now_97 : decode cX4_now 97 = .ok (.ireturn, 1) := by decide +kernel
theorem dX4_now_98 : decode cX4_now 98 = .ok (.aload_n 0, 1) := by decide +kernel
theorem dX4_now_99 : decode cX4_now 99 = .ok (.getfield 10, 3) := by decide +kernel
theorem dX4_now_102 : decode cX4_now 102 = .ok (.bipush 40, 2) := by decide +kernel
theorem dX4_now_104 : decode cX4_now 104 = .ok (.invokevirtual 128, 3) := by decide +kernel
theorem dX4_now_107 : decode cX4_now 107 = .ok (.ireturn, 1) := by decide +kernel
theorem dX4_now_108 : decode cX4_now 108 = .ok (.aload_n 0, 1) := by decide +kernel
theorem dX4_now_109 : decode cX4_now 109 = .ok (.getfield 10, 3) := by decide +kernel
theorem dX4_now_112 : decode cX4_now 112 = .ok (.invokevirtual 135, 3) := by decide +kernel
theorem dX4_now_115 : decode cX4_now 115 = .ok (.ifCond .eq 7, 3) := by decide +kernel
theorem dX4_now_118 : decode cX4_now 118 = .ok (.iconst 1, 1) := by decide +kernel
theorem dX4_now_119 : decode cX4_now 119 = .ok (.goto 4, 3) := by decide +kernel
theorem dX4_now_122 : decode cX4_now 122 = .ok (.iconst 0, 1) := by decide +kernel
theorem dX4_now_123 : decode cX4_now 123 = .ok (.ireturn, 1) := by decide +kernel
theorem dX4_now_124 : decode cX4_now 124 = .ok (.aload_n 0, 1) := by decide +kernel
theorem dX4_now_125 : decode cX4_now 125 = .ok (.iconst 0, 1) := by decide +kernel
theorem dX4_now_126 : decode cX4_now 126 = .ok (.invokevirtual 57, 3) := by decide +kernel
theorem dX4_now_129 : decode cX4_now 129 = .ok (.ireturn, 1) := by decide +kernel
theorem dX4_ahead_0 : decode cX4_ahead 0 = .ok (.iload_n 2, 1) := by decide +kernel
theorem dX4_ahead_1 : decode cX4_ahead 1 = .ok (.iconst 1, 1) := by decide +kernel
theorem dX4_ahead_2 : decode cX4_ahead 2 = .ok (.if_icmp .eq 13, 3) := by decide +kernel
theorem dX4_ahead_5 : decode cX4_ahead 5 = .ok (.iload_n 2, 1) := by decide +kernel
theorem dX4_ahead_6 : decode cX4_ahead 6 = .ok (.iconst 3, 1) := by decide +kernel
theorem dX4_ahead_7 : decode cX4_ahead 7 = .ok (.bipush 6, 2) := by decide +kernel
theorem dX4_ahead_9 : decode cX4_ahead 9 = .ok (.invokestatic 53, 3) := by decide +kernel
theorem dX4_ahead_12 : decode cX4_ahead 12 = .ok (.ifCond .eq 7, 3) := by decide +kernel
theorem dX4_ahead_15 : decode cX4_ahead 15 = .ok (.iconst 1, 1) := by decide +kernel
theorem dX4_ahead_16 : decode cX4_ahead 16 = .ok (.goto 4, 3) := by decide +kernel
theorem dX4_ahead_19 : decode cX4_ahead 19 = .ok (.iconst 0, 1) := by decide +kernel
theorem dX4_ahead_20 : decode cX4_ahead 20 = .ok (.istore 4, 2) := by decide +kernel
theorem dX4_ahead_22 : decode cX4_ahead 22 = .ok (.aload_n 0, 1) := by decide +kernel
theorem dX4_ahead_23 : decode cX4_ahead 23 = .ok (.getfield 10, 3) := by decide +kernel
theorem dX4_ahead_26 : decode cX4_ahead 26 = .ok (.iload_n 1, 1) := by decide +kernel
theorem dX4_ahead_27 : decode cX4_ahead 27 = .ok (.invokevirtual 76, 3) := by decide +kernel
theorem dX4_ahead_30 : decode cX4_ahead 30 = .ok (.ifCond .eq 18, 3) := by decide +kernel
theorem dX4_ahead_33 : decode cX4_ahead 33 = .ok (.iload 4, 2) := by decide +kernel
theorem dX4_ahead_35 : decode cX4_ahead 35 = .ok (.ifCond .eq 13, 3) := by decide +kernel
theorem dX4_ahead_38 : decode cX4_ahead 38 = .ok (.iload_n 3, 1) := by decide +kernel
theorem dX4_ahead_39 : decode cX4_ahead 39 = .ok (.iconst 0, 1) := by decide +kernel
theorem dX4_ahead_40 : decode cX4_ahead 40 = .ok (.bipush 100, 2) := by decide +kernel
theorem dX4_ahead_42 : decode cX4_ahead 42 = .ok (.invokestatic 53, 3) := by decide +kernel
theorem dX4_ahead_45 : decode cX4_ahead 45 = .ok (.ifCond .ne 9, 3) := by decide +kernel
theorem dX4_ahead_48 : decode cX4_ahead 48 = .ok (.aload_n 0, 1) := by decide +kernel
theorem dX4_ahead_49 : decode cX4_ahead 49 = .ok (.iconst 0, 1) := by decide +kernel
theorem dX4_ahead_50 : decode cX4_ahead 50 = .ok (.invokevirtual 57, 3) := by decide +kernel
theorem dX4_ahead_53 : decode cX4_ahead 53 = .ok (.ireturn, 1) := by decide +kernel
theorem dX4_ahead_54 : decode cX4_ahead 54 = .ok (.aload_n 0, 1) := by decide +kernel
theorem dX4_ahead_55 : decode cX4_ahead 55 = .ok (.getfield 16, 3) := by decide +kernel
theorem dX4_ahead_58 : decode cX4_ahead 58 = .ok (.aload_n 0, 1) := by decide +kernel
theorem dX4_ahead_59 : decode cX4_ahead 59 = .ok (.getfield 10, 3) := by decide +kernel
theorem dX4_ahead_62 : decode cX4_ahead 62 = .ok (.invokevirtual 138, 3) := by decide +kernel
theorem dX4_ahead_65 : decode cX4_ahead 65 = .ok (.aload_n 0, 1) := by decide +kernel
theorem dX4_ahead_66 : decode cX4_ahead 66 = .ok (.getfield 16, 3) := by decide +kernel
theorem dX4_ahead_69 : decode cX4_ahead 69 = .ok (.iload_n 3, 1) := by decide +kernel
theorem dX4_ahead_70 : decode cX4_ahead 70 = .ok (.invokevirtual 115, 3) := by decide +kernel
theorem dX4_ahead_73 : decode cX4_ahead 73 = .ok (.aload_n 0, 1) := by decide +kernel
theorem dX4_ahead_74 : decode cX4_ahead 74 = .ok (.getfield 16, 3) := by decide +kernel
theorem dX4_ahead_77 : decode cX4_ahead 77 = .ok (.iload_n 1, 1) := by decide +kernel
theorem dX4_ahead_78 : decode cX4_ahead 78 = .ok (.iload_n 2, 1) := by decide +kernel
theorem dX4_ahead_79 : decode cX4_ahead 79 = .ok (.invokevirtual 80, 3) := by decide +kernel
theorem dX4_ahead_82 : decode cX4_ahead 82 = .ok (.ireturn, 1) := by decide +kernel
theorem dX4_terms_0 : decode cX4_terms 0 = .ok (.aload_n 0, 1) := by decide +kernel
theorem dX4_terms_1 : decode cX4_terms 1 = .ok (.getfield 10, 3) := by decide +kernel
theorem dX4_terms_4 : decode cX4_terms 4 = .ok (.iload_n 1, 1) := by decide +kernel
theorem dX4_terms_5 : decode cX4_terms 5 = .ok (.iload_n 2, 1) := by decide +kernel
theorem dX4_terms_6 : decode cX4_terms 6 = .ok (.invokevirtual 90, 3) := by decide +kernel
theorem dX4_terms_9 : decode cX4_terms 9 = .ok (.ifCond .eq 13, 3) := by decide +kernel
theorem dX4_terms_12 : decode cX4_terms 12 = .ok (.iload_n 3, 1) := by decide +kernel
theorem dX4_terms_13 : decode cX4_terms 13 = .ok (.iconst 0, 1) := by decide +kernel
theorem dX4_terms_14 : decode cX4_terms 14 = .ok (.bipush 100, 2) := by decide +kernel
theorem dX4_terms_16 : decode cX4_terms 16 = .ok (.invokestatic 53, 3) := by decide +kernel
theorem dX4_terms_19 : decode cX4_terms 19 = .ok (.ifCond .ne 9, 3) := by decide +kernel
theorem dX4_terms_22 : decode cX4_terms 22 = .ok (.aload_n 0, 1) := by decide +kernel
theorem dX4_terms_23 : decode cX4_terms 23 = .ok (.iconst 0, 1) := by decide +kernel
theorem dX4_terms_24 : decode cX4_terms 24 = .ok (.invokevirtual 57, 3) := by decide +kernel
theorem dX4_terms_27 : decode cX4_terms 27 = .ok (.ireturn, 1) := by decide +kernel
theorem dX4_terms_28 : decode cX4_terms 28 = .ok (.aload_n 0, 1) := by decide +kernel
theorem dX4_terms_29 : decode cX4_terms 29 = .ok (.getfield 16, 3) := by decide +kernel
theorem dX4_terms_32 : decode cX4_terms 32 = .ok (.aload_n 0, 1) := by decide +kernel
theorem dX4_terms_33 : decode cX4_terms 33 = .ok (.getfield 10, 3) := by decide +kernel
theorem dX4_terms_36 : decode cX4_terms 36 = .ok (.invokevirtual 138, 3) := by decide +kernel
theorem dX4_terms_39 : decode cX4_terms 39 = .ok (.aload_n 0, 1) := by decide +kernel
theorem dX4_terms_40 : decode cX4_terms 40 = .ok (.getfield 16, 3) := by decide +kernel
theorem dX4_terms_43 : decode cX4_terms 43 = .ok (.iload_n 3, 1) := by decide +kernel
theorem dX4_terms_44 : decode cX4_terms 44 = .ok (.invokevirtual 115, 3) := by decide +kernel
theorem dX4_terms_47 : decode cX4_terms 47 = .ok (.aload_n 0, 1) := by decide +kernel
theorem dX4_terms_48 : decode cX4_terms 48 = .ok (.getfield 16, 3) := by decide +kernel
theorem dX4_terms_51 : decode cX4_terms 51 = .ok (.iload_n 1, 1) := by decide +kernel
theorem dX4_terms_52 : decode cX4_terms 52 = .ok (.iload_n 2, 1) := by decide +kernel
theorem dX4_terms_53 : decode cX4_terms 53 = .ok (.invokevirtual 94, 3) := by decide +kernel
theorem dX4_terms_56 : decode cX4_terms 56 = .ok (.ireturn, 1) := by decide +kernel
theorem dX4_next_0 : decode cX4_next 0 = .ok (.iload_n 1, 1) := by decide +kernel
theorem dX4_next_1 : decode cX4_next 1 = .ok (.iconst 0, 1) := by decide +kernel
theorem dX4_next_2 : decode cX4_next 2 = .ok (.iconst 1, 1) := by decide +kernel
theorem dX4_next_3 : decode cX4_next 3 = .ok (.invokestatic 53, 3) := by decide +kernel
theorem dX4_next_6 : decode cX4_next 6 = .ok (.ifCond .ne 9, 3) := by decide +kernel
theorem dX4_next_9 : decode cX4_next 9 = .ok (.aload_n 0, 1) := by decide +kernel
theorem dX4_next_10 : decode cX4_next 10 = .ok (.iconst 0, 1) := by decide +kernel
theorem dX4_next_11 : decode cX4_next 11 = .ok (.invokevirtual 57, 3) := by decide +kernel
theorem dX4_next_14 : decode cX4_next 14 = .ok (.ireturn, 1) := by decide +kernel
theorem dX4_next_15 : decode cX4_next 15 = .ok (.aload_n 0, 1) := by decide +kernel
theorem dX4_next_16 : decode cX4_next 16 = .ok (.getfield 16, 3) := by decide +kernel
theorem dX4_next_19 : decode cX4_next 19 = .ok (.aload_n 0, 1) := by decide +kernel
theorem dX4_next_20 : decode cX4_next 20 = .ok (.getfield 10, 3) := by decide +kernel
theorem dX4_next_23 : decode cX4_next 23 = .ok (.invokevirtual 138, 3) := by decide +kernel
theorem dX4_next_26 : decode cX4_next 26 = .ok (.iconst 1, 1) := by decide +kernel
theorem dX4_next_27 : decode cX4_next 27 = .ok (.istore_n 2, 1) := by decide +kernel
theorem dX4_next_28 : decode cX4_next 28 = .ok (.iload_n 2, 1) := by decide +kernel
theorem dX4_next_29 : decode cX4_next 29 = .ok (.sipush 200, 3) := by decide +kernel
theorem dX4_next_32 : decode cX4_next 32 = .ok (.if_icmp .gt 75, 3) := by decide +kernel
theorem dX4_next_35 : decode cX4_next 35 = .ok (.aload_n 0, 1) := by decide +kernel
theorem dX4_next_36 : decode cX4_next 36 = .ok (.getfield 16, 3) := by decide +kernel
theorem dX4_next_39 : decode cX4_next 39 = .ok (.iconst 1, 1) := by decide +kernel
theorem dX4_next_40 : decode cX4_next 40 = .ok (.invokevirtual 115, 3) := by decide +kernel
theorem dX4_next_43 : decode cX4_next 43 = .ok (.iload_n 1, 1) := by decide +kernel
theorem dX4_next_44 : decode cX4_next 44 = .ok (.ifCond .ne 28, 3) := by decide +kernel
theorem dX4_next_47 : decode cX4_next 47 = .ok (.aload_n 0, 1) := by decide +kernel
theorem dX4_next_48 : decode cX4_next 48 = .ok (.getfield 16, 3) := by decide +kernel
theorem dX4_next_51 : decode cX4_next 51 = .ok (.getfield 122, 3) := by decide +kernel
theorem dX4_next_54 : decode cX4_next 54 = .ok (.aload_n 0, 1) := by decide +kernel
theorem dX4_next_55 : decode cX4_next 55 = .ok (.getfield 10, 3) := by decide +kernel
theorem dX4_next_58 : decode cX4_next 58 = .ok (.getfield 122, 3) := by decide +kernel
theorem dX4_next_61 : decode cX4_next 61 = .ok (.if_icmp .le 7, 3) := by decide +kernel
theorem dX4_next_64 : decode cX4_next 64 = .ok (.iconst 1, 1) := by decide +kernel
theorem dX4_next_65 : decode cX4_next 65 = .ok (.goto 29, 3) := by decide +kernel
theorem dX4_next_68 : decode cX4_next 68 = .ok (.iconst 0, 1) := by decide +kernel
theorem dX4_next_69 : decode cX4_next 69 = .ok (.goto 25, 3) := by decide +kernel
theorem dX4_next_72 : decode cX4_next 72 = .ok (.aload_n 0, 1) := by decide +kernel
theorem dX4_next_73 : decode cX4_next 73 = .ok (.getfield 16, 3) := by decide +kernel
theorem dX4_next_76 : decode cX4_next 76 = .ok (.getfield 125, 3) := by decide +kernel
theorem dX4_next_79 : decode cX4_next 79 = .ok (.aload_n 0, 1) := by decide +kernel
theorem dX4_next_80 : decode cX4_next 80 = .ok (.getfield 10, 3) := by decide +kernel
theorem dX4_next_83 : decode cX4_next 83 = .ok (.getfield 125, 3) := by decide +kernel
theorem dX4_next_86 : decode cX4_next 86 = .ok (.if_icmp .le 7, 3) := by decide +kernel
theorem dX4_next_89 : decode cX4_next 89 = .ok (.iconst 1, 1) := by decide +kernel
theorem dX4_next_90 : decode cX4_next 90 = .ok (.goto 4, 3) := by decide +kernel
theorem dX4_next_93 : decode cX4_next 93 = .ok (.iconst 0, 1) := by decide +kernel
theorem dX4_next_94 : decode cX4_next 94 = .ok (.istore_n 3, 1) := by decide +kernel
theorem dX4_next_95 : decode cX4_next 95 = .ok (.iload_n 3, 1) := by decide +kernel
theorem dX4_next_96 : decode cX4_next 96 = .ok (.ifCond .eq 5, 3) := by decide +kernel
theorem dX4_next_99 : decode cX4_next 99 = .ok (.iload_n 2, 1) := by decide +kernel
theorem dX4_next_100 : decode cX4_next 100 = .ok (.ireturn, 1) := by decide +kernel
theorem dX4_next_101 : decode cX4_next 101 = .ok (.iinc 2 1, 3) := by decide +kernel
theorem dX4_next_104 : decode cX4_next 104 = .ok (.goto (-76), 3) := by decide +kernel
theorem dX4_next_107 : decode cX4_next 107 = .ok (.aload_n 0, 1) := by decide +kernel
theorem dX4_next_108 : decode cX4_next 108 = .ok (.iconst 3, 1) := by decide +kernel
theorem dX4_next_109 : decode cX4_next 109 = .ok (.invokevirtual 57, 3) := by decide +kernel
theorem dX4_next_112 : decode cX4_next 112 = .ok (.ireturn, 1) := by decide +kernel
theorem dX4_peace_0 : decode cX4_peace 0 = .ok (.aload_n 0, 1) := by decide +kernel
theorem dX4_peace_1 : decode cX4_peace 1 = .ok (.getfield 10, 3) := by decide +kernel
theorem dX4_peace_4 : decode cX4_peace 4 = .ok (.iload_n 1, 1) := by decide +kernel
theorem dX4_peace_5 : decode cX4_peace 5 = .ok (.iload_n 2, 1) := by decide +kernel
theorem dX4_peace_6 : decode cX4_peace 6 = .ok (.invokevirtual 90, 3) := by decide +kernel
theorem dX4_peace_9 : decode cX4_peace 9 = .ok (.ifCond .eq 13, 3) := by decide +kernel
theorem dX4_peace_12 : decode cX4_peace 12 = .ok (.iload_n 3, 1) := by decide +kernel
theorem dX4_peace_13 : decode cX4_peace 13 = .ok (.iconst 0, 1) := by decide +kernel
theorem dX4_peace_14 : decode cX4_peace 14 = .ok (.bipush 99, 2) := by decide +kernel
theorem dX4_peace_16 : decode cX4_peace 16 = .ok (.invokestatic 53, 3) := by decide +kernel
theorem dX4_peace_19 : decode cX4_peace 19 = .ok (.ifCond .ne 9, 3) := by decide +kernel
theorem dX4_peace_22 : decode cX4_peace 22 = .ok (.aload_n 0, 1) := by decide +kernel
theorem dX4_peace_23 : decode cX4_peace 23 = .ok (.iconst 0, 1) := by decide +kernel
theorem dX4_peace_24 : decode cX4_peace 24 = .ok (.invokevirtual 57, 3) := by decide +kernel
theorem dX4_peace_27 : decode cX4_peace 27 = .ok (.ireturn, 1) := by decide +kernel
theorem dX4_peace_28 : decode cX4_peace 28 = .ok (.aload_n 0, 1) := by decide +kernel
theorem dX4_peace_29 : decode cX4_peace 29 = .ok (.getfield 16, 3) := by decide +kernel
theorem dX4_peace_32 : decode cX4_peace 32 = .ok (.aload_n 0, 1) := by decide +kernel
theorem dX4_peace_33 : decode cX4_peace 33 = .ok (.getfield 10, 3) := by decide +kernel
theorem dX4_peace_36 : decode cX4_peace 36 = .ok (.invokevirtual 138, 3) := by decide +kernel
theorem dX4_peace_39 : decode cX4_peace 39 = .ok (.iconst 0, 1) := by decide +kernel
theorem dX4_peace_40 : decode cX4_peace 40 = .ok (.istore 4, 2) := by decide +kernel
theorem dX4_peace_42 : decode cX4_peace 42 = .ok (.iload 4, 2) := by decide +kernel
theorem dX4_peace_44 : decode cX4_peace 44 = .ok (.sipush 200, 3) := by decide +kernel
theorem dX4_peace_47 : decode cX4_peace 47 = .ok (.if_icmp .gt 33, 3) := by decide +kernel
theorem dX4_peace_50 : decode cX4_peace 50 = .ok (.aload_n 0, 1) := by decide +kernel
theorem dX4_peace_51 : decode cX4_peace 51 = .ok (.getfield 16, 3) := by decide +kernel
theorem dX4_peace_54 : decode cX4_peace 54 = .ok (.iload_n 1, 1) := by decide +kernel
theorem dX4_peace_55 : decode cX4_peace 55 = .ok (.iload_n 2, 1) := by decide +kernel
theorem dX4_peace_56 : decode cX4_peace 56 = .ok (.invokevirtual 94, 3) := by decide +kernel
theorem dX4_peace_59 : decode cX4_peace 59 = .ok (.iload_n 3, 1) := by decide +kernel
theorem dX4_peace_60 : decode cX4_peace 60 = .ok (.if_icmp .gt 6, 3) := by decide +kernel
theorem dX4_peace_63 : decode cX4_peace 63 = .ok (.iload 4, 2) := by decide +kernel
theorem dX4_peace_65 : decode cX4_peace 65 = .ok (.ireturn, 1) := by decide +kernel
theorem dX4_peace_66 : decode cX4_peace 66 = .ok (.aload_n 0, 1) := by decide +kernel
theorem dX4_peace_67 : decode cX4_peace 67 = .ok (.getfield 16, 3) := by decide +kernel
theorem dX4_peace_70 : decode cX4_peace 70 = .ok (.iconst 1, 1) := by decide +kernel
theorem dX4_peace_71 : decode cX4_peace 71 = .ok (.invokevirtual 115, 3) := by decide +kernel
theorem dX4_peace_74 : decode cX4_peace 74 = .ok (.iinc 4 1, 3) := by decide +kernel
theorem dX4_peace_77 : decode cX4_peace 77 = .ok (.goto (-35), 3) := by decide +kernel
theorem dX4_peace_80 : decode cX4_peace 80 = .ok (.aload_n 0, 1) := by decide +kernel
theorem dX4_peace_81 : decode cX4_peace 81 = .ok (.iconst 3, 1) := by decide +kernel
theorem dX4_peace_82 : decode cX4_peace 82 = .ok (.invokevirtual 57, 3) := by decide +kernel
theorem dX4_peace_85 : decode cX4_peace 85 = .ok (.ireturn, 1) := by decide +kernel
theorem dX4_when_0 : decode cX4_when 0 = .ok (.aload_n 0, 1) := by decide +kernel
theorem dX4_when_1 : decode cX4_when 1 = .ok (.getfield 10, 3) := by decide +kernel
theorem dX4_when_4 : decode cX4_when 4 = .ok (.iload_n 1, 1) := by decide +kernel
theorem dX4_when_5 : decode cX4_when 5 = .ok (.invokevirtual 76, 3) := by decide +kernel
theorem dX4_when_8 : decode cX4_when 8 = .ok (.ifCond .eq 14, 3) := by decide +kernel
theorem dX4_when_11 : decode cX4_when 11 = .ok (.iload_n 2, 1) := by decide +kernel
theorem dX4_when_12 : decode cX4_when 12 = .ok (.iconst 0, 1) := by decide +kernel
theorem dX4_when_13 : decode cX4_when 13 = .ok (.sipush 9999, 3) := by decide +kernel
theorem dX4_when_16 : decode cX4_when 16 = .ok (.invokestatic 53, 3) := by decide +kernel
theorem dX4_when_19 : decode cX4_when 19 = .ok (.ifCond .ne 9, 3) := by decide +kernel
theorem dX4_when_22 : decode cX4_when 22 = .ok (.aload_n 0, 1) := by decide +kernel
theorem dX4_when_23 : decode cX4_when 23 = .ok (.iconst 0, 1) := by decide +kernel
theorem dX4_when_24 : decode cX4_when 24 = .ok (.invokevirtual 57, 3) := by decide +kernel
theorem dX4_when_27 : decode cX4_when 27 = .ok (.ireturn, 1) := by decide +kernel
theorem dX4_when_28 : decode cX4_when 28 = .ok (.aload_n 0, 1) := by decide +kernel
theorem dX4_when_29 : decode cX4_when 29 = .ok (.getfield 16, 3) := by decide +kernel
theorem dX4_when_32 : decode cX4_when 32 = .ok (.aload_n 0, 1) := by decide +kernel
theorem dX4_when_33 : decode cX4_when 33 = .ok (.getfield 10, 3) := by decide +kernel
theorem dX4_when_36 : decode cX4_when 36 = .ok (.invokevirtual 138, 3) := by decide +kernel
theorem dX4_when_39 : decode cX4_when 39 = .ok (.iconst 0, 1) := by decide +kernel
theorem dX4_when_40 : decode cX4_when 40 = .ok (.istore_n 3, 1) := by decide +kernel
theorem dX4_when_41 : decode cX4_when 41 = .ok (.iload_n 3, 1) := by decide +kernel
theorem dX4_when_42 : decode cX4_when 42 = .ok (.sipush 200, 3) := by decide +kernel
theorem dX4_when_45 : decode cX4_when 45 = .ok (.if_icmp .gt 35, 3) := by decide +kernel
theorem dX4_when_48 : decode cX4_when 48 = .ok (.aload_n 0, 1) := by decide +kernel
theorem dX4_when_49 : decode cX4_when 49 = .ok (.getfield 16, 3) := by decide +kernel
theorem dX4_when_52 : decode cX4_when 52 = .ok (.getfield 87, 3) := by decide +kernel
theorem dX4_when_55 : decode cX4_when 55 = .ok (.bipush 32, 2) := by decide +kernel
theorem dX4_when_57 : decode cX4_when 57 = .ok (.iload_n 1, 1) := by decide +kernel
theorem dX4_when_58 : decode cX4_when 58 = .ok (.iadd, 1) := by decide +kernel
theorem dX4_when_59 : decode cX4_when 59 = .ok (.iaload, 1) := by decide +kernel
theorem dX4_when_60 : decode cX4_when 60 = .ok (.iload_n 2, 1) := by decide +kernel
theorem dX4_when_61 : decode cX4_when 61 = .ok (.if_icmp .lt 5, 3) := by decide +kernel
theorem dX4_when_64 : decode cX4_when 64 = .ok (.iload_n 3, 1) := by decide +kernel
theorem dX4_when_65 : decode cX4_when 65 = .ok (.ireturn, 1) := by decide +kernel
theorem dX4_when_66 : decode cX4_when 66 = .ok (.aload_n 0, 1) := by decide +kernel
theorem dX4_when_67 : decode cX4_when 67 = .ok (.getfield 16, 3) := by decide +kernel
theorem dX4_when_70 : decode cX4_when 70 = .ok (.iconst 1, 1) := by decide +kernel
theorem dX4_when_71 : decode cX4_when 71 = .ok (.invokevirtual 115, 3) := by decide +kernel
theorem dX4_when_74 : decode cX4_when 74 = .ok (.iinc 3 1, 3) := by decide +kernel
theorem dX4_when_77 : decode cX4_when 77 = .ok (.goto (-36), 3) := by decide +kernel
theorem dX4_when_80 : decode cX4_when 80 = .ok (.aload_n 0, 1) := by decide +kernel
theorem dX4_when_81 : decode cX4_when 81 = .ok (.iconst 3, 1) := by decide +kernel
theorem dX4_when_82 : decode cX4_when 82 = .ok (.invokevirtual 57, 3) := by decide +kernel
theorem dX4_when_85 : decode cX4_when 85 = .ok (.ireturn, 1) := by decide +kernel
theorem dX4_setWith_0 : decode cX4_setWith 0 = .ok (.iload_n 1, 1) := by decide +kernel
theorem dX4_setWith_1 : decode cX4_setWith 1 = .ok (.iconst 0, 1) := by decide +kernel
theorem dX4_setWith_2 : decode cX4_setWith 2 = .ok (.iconst 5, 1) := by decide +kernel
theorem dX4_setWith_3 : decode cX4_setWith 3 = .ok (.invokestatic 53, 3) := by decide +kernel
theorem dX4_setWith_6 : decode cX4_setWith 6 = .ok (.ifCond .eq 24, 3) := by decide +kernel
theorem dX4_setWith_9 : decode cX4_setWith 9 = .ok (.aload_n 0, 1) := by decide +kernel
theorem dX4_setWith_10 : decode cX4_setWith 10 = .ok (.getfield 10, 3) := by decide +kernel
theorem dX4_setWith_13 : decode cX4_setWith 13 = .ok (.iload_n 2, 1) := by decide +kernel
theorem dX4_setWith_14 : decode cX4_setWith 14 = .ok (.invokevirtual 76, 3) := by decide +kernel
theorem dX4_setWith_17 : decode cX4_setWith 17 = .ok (.ifCond .eq 13, 3) := by decide +kernel
theorem dX4_setWith_20 : decode cX4_setWith 20 = .ok (.iload_n 3, 1) := by decide +kernel
theorem dX4_setWith_21 : decode cX4_setWith 21 = .ok (.iconst 0, 1) := by decide +kernel
theorem dX4_setWith_22 : decode cX4_setWith 22 = .ok (.bipush 60, 2) := by decide +kernel
theorem dX4_setWith_24 : decode cX4_setWith 24 = .ok (.invokestatic 53, 3) := by decide +kernel
theorem dX4_setWith_27 : decode cX4_setWith 27 = .ok (.ifCond .ne 9, 3) := by decide +kernel
theorem dX4_setWith_30 : decode cX4_setWith 30 = .ok (.aload_n 0, 1) := by decide +kernel
theorem dX4_setWith_31 : decode cX4_setWith 31 = .ok (.iconst 0, 1) := by decide +kernel
theorem dX4_setWith_32 : decode cX4_setWith 32 = .ok (.invokevirtual 57, 3) := by decide +kernel
theorem dX4_setWith_35 : decode cX4_setWith 35 = .ok (.ireturn, 1) := by decide +kernel
theorem dX4_setWith_36 : decode cX4_setWith 36 = .ok (.iconst (-1), 1) := by decide +kernel
theorem dX4_setWith_37 : decode cX4_setWith 37 = .ok (.istore 4, 2) := by decide +kernel
theorem dX4_setWith_39 : decode cX4_setWith 39 = .ok (.iconst (-1), 1) := by decide +kernel
theorem dX4_setWith_40 : decode cX4_setWith 40 = .ok (.istore 5, 2) := by decide +kernel
theorem dX4_setWith_42 : decode cX4_setWith 42 = .ok (.iconst 0, 1) := by decide +kernel
theorem dX4_setWith_43 : decode cX4_setWith 43 = .ok (.istore 6, 2) := by decide +kernel
theorem dX4_setWith_45 : decode cX4_setWith 45 = .ok (.iload 6, 2) := by decide +kernel
theorem dX4_setWith_47 : decode cX4_setWith 47 = .ok (.aload_n 0, 1) := by decide +kernel
theorem dX4_setWith_48 : decode cX4_setWith 48 = .ok (.getfield 10, 3) := by decide +kernel
theorem dX4_setWith_51 : decode cX4_setWith 51 = .ok (.getfield 142, 3) := by decide +kernel
theorem dX4_setWith_54 : decode cX4_setWith 54 = .ok (.if_icmp .ge 78, 3) := by decide +kernel
theorem dX4_setWith_57 : decode cX4_setWith 57 = .ok (.iload 6, 2) := by decide +kernel
theorem dX4_setWith_59 : decode cX4_setWith 59 = .ok (.iload_n 2, 1) := by decide +kernel
theorem dX4_setWith_60 : decode cX4_setWith 60 = .ok (.if_icmp .ne 6, 3) := by decide +kernel
theorem dX4_setWith_63 : decode cX4_setWith 63 = .ok (.goto 63, 3) := by decide +kernel
theorem dX4_setWith_66 : decode cX4_setWith 66 = .ok (.aload_n 0, 1) := by decide +kernel
theorem dX4_setWith_67 : decode cX4_setWith 67 = .ok (.getfield 16, 3) := by decide +kernel
theorem dX4_setWith_70 : decode cX4_setWith 70 = .ok (.aload_n 0, 1) := by decide +kernel
theorem dX4_setWith_71 : decode cX4_setWith 71 = .ok (.getfield 10, 3) := by decide +kernel
theorem dX4_setWith_74 : decode cX4_setWith 74 = .ok (.invokevirtual 138, 3) := by decide +kernel
theorem dX4_setWith_77 : decode cX4_setWith 77 = .ok (.aload_n 0, 1) := by decide +kernel
theorem dX4_setWith_78 : decode cX4_setWith 78 = .ok (.getfield 16, 3) := by decide +kernel
theorem dX4_setWith_81 : decode cX4_setWith 81 = .ok (.getfield 65, 3) := by decide +kernel
theorem dX4_setWith_84 : decode cX4_setWith 84 = .ok (.iload_n 1, 1) := by decide +kernel
theorem dX4_setWith_85 : decode cX4_setWith 85 = .ok (.bipush 10, 2) := by decide +kernel
theorem dX4_setWith_87 : decode cX4_setWith 87 = .ok (.iload_n 2, 1) := by decide +kernel
theorem dX4_setWith_88 : decode cX4_setWith 88 = .ok (.imul, 1) := by decide +kernel
theorem dX4_setWith_89 : decode cX4_setWith 89 = .ok (.iload 6, 2) := by decide +kernel
theorem dX4_setWith_91 : decode cX4_setWith 91 = .ok (.iadd, 1) := by decide +kernel
theorem dX4_setWith_92 : decode cX4_setWith 92 = .ok (.iastore, 1) := by decide +kernel
theorem dX4_setWith_93 : decode cX4_setWith 93 = .ok (.aload_n 0, 1) := by decide +kernel
theorem dX4_setWith_94 : decode cX4_setWith 94 = .ok (.getfield 16, 3) := by decide +kernel
theorem dX4_setWith_97 : decode cX4_setWith 97 = .ok (.iload_n 3, 1) := by decide +kernel
theorem dX4_setWith_98 : decode cX4_setWith 98 = .ok (.invokevirtual 115, 3) := by decide +kernel
theorem dX4_setWith_101 : decode cX4_setWith 101 = .ok (.aload_n 0, 1) := by decide +kernel
theorem dX4_setWith_102 : decode cX4_setWith 102 = .ok (.getfield 16, 3) := by decide +kernel
theorem dX4_setWith_105 : decode cX4_setWith 105 = .ok (.getfield 119, 3) := by decide +kernel
theorem dX4_setWith_108 : decode cX4_setWith 108 = .ok (.iload 5, 2) := by decide +kernel
theorem dX4_setWith_110 : decode cX4_setWith 110 = .ok (.if_icmp .le 16, 3) := by decide +kernel
theorem dX4_setWith_113 : decode cX4_setWith 113 = .ok (.aload_n 0, 1) := by decide +kernel
theorem dX4_setWith_114 : decode cX4_setWith 114 = .ok (.getfield 16, 3) := by decide +kernel
theorem dX4_setWith_117 : decode cX4_setWith 117 = .ok (.getfield 119, 3) := by decide +kernel
theorem dX4_setWith_120 : decode cX4_setWith 120 = .ok (.istore 5, 2) := by decide +kernel
theorem dX4_setWith_122 : decode cX4_setWith 122 = .ok (.iload 6, 2) := by decide +kernel
theorem dX4_setWith_124 : decode cX4_setWith 124 = .ok (.istore 4, 2) := by decide +kernel
theorem dX4_setWith_126 : decode cX4_setWith 126 = .ok (.iinc 6 1, 3) := by decide +kernel
theorem dX4_setWith_129 : decode cX4_setWith 129 = .ok (.goto (-84), 3) := by decide +kernel
theorem dX4_setWith_132 : decode cX4_setWith 132 = .ok (.iload 4, 2) := by decide +kernel
theorem dX4_setWith_134 : decode cX4_setWith 134 = .ok (.iconst (-1), 1) := by decide +kernel
theorem dX4_setWith_135 : decode cX4_setWith 135 = .ok (.if_icmp .ne 11, 3) := by decide +kernel
theorem dX4_setWith_138 : decode cX4_setWith 138 = .ok (.aload_n 0, 1) := by decide +kernel
theorem dX4_setWith_139 : decode cX4_setWith 139 = .ok (.iconst 3, 1) := by decide +kernel
theorem dX4_setWith_140 : decode cX4_setWith 140 = .ok (.invokevirtual 57, 3) := by decide +kernel
theorem dX4_setWith_143 : decode cX4_setWith 143 = .ok (.goto 5, 3) := by decide +kernel
theorem dX4_setWith_146 : decode cX4_setWith 146 = .ok (.iload 4, 2) := by decide +kernel
theorem dX4_setWith_148 : decode cX4_setWith 148 = .ok (.ireturn, 1) := by decide +kernel
theorem dX4_heatFor_0 : decode cX4_heatFor 0 = .ok (.aload_n 0, 1) := by decide +kernel
theorem dX4_heatFor_1 : decode cX4_heatFor 1 = .ok (.getfield 10, 3) := by decide +kernel
theorem dX4_heatFor_4 : decode cX4_heatFor 4 = .ok (.iload_n 1, 1) := by decide +kernel
theorem dX4_heatFor_5 : decode cX4_heatFor 5 = .ok (.invokevirtual 76, 3) := by decide +kernel
theorem dX4_heatFor_8 : decode cX4_heatFor 8 = .ok (.ifCond .eq 13, 3) := by decide +kernel
theorem dX4_heatFor_11 : decode cX4_heatFor 11 = .ok (.iload_n 2, 1) := by decide +kernel
theorem dX4_heatFor_12 : decode cX4_heatFor 12 = .ok (.iconst 0, 1) := by decide +kernel
theorem dX4_heatFor_13 : decode cX4_heatFor 13 = .ok (.bipush 60, 2) := by decide +kernel
theorem dX4_heatFor_15 : decode cX4_heatFor 15 = .ok (.invokestatic 53, 3) := by decide +kernel
theorem dX4_heatFor_18 : decode cX4_heatFor 18 = .ok (.ifCond .ne 9, 3) := by decide +kernel
theorem dX4_heatFor_21 : decode cX4_heatFor 21 = .ok (.aload_n 0, 1) := by decide +kernel
theorem dX4_heatFor_22 : decode cX4_heatFor 22 = .ok (.iconst 0, 1) := by decide +kernel
theorem dX4_heatFor_23 : decode cX4_heatFor 23 = .ok (.invokevirtual 57, 3) := by decide +kernel
theorem dX4_heatFor_26 : decode cX4_heatFor 26 = .ok (.ireturn, 1) := by decide +kernel
theorem dX4_heatFor_27 : decode cX4_heatFor 27 = .ok (.aload_n 0, 1) := by decide +kernel
theorem dX4_heatFor_28 : decode cX4_heatFor 28 = .ok (.bipush 8, 2) := by decide +kernel
theorem dX4_heatFor_30 : decode cX4_heatFor 30 = .ok (.iload_n 1, 1) := by decide +kernel
theorem dX4_heatFor_31 : decode cX4_heatFor 31 = .ok (.iadd, 1) := by decide +kernel
theorem dX4_heatFor_32 : decode cX4_heatFor 32 = .ok (.bipush 99, 2) := by decide +kernel
theorem dX4_heatFor_34 : decode cX4_heatFor 34 = .ok (.iload_n 2, 1) := by decide +kernel
theorem dX4_heatFor_35 : decode cX4_heatFor 35 = .ok (.invokevirtual 145, 3) := by decide +kernel
theorem dX4_heatFor_38 : decode cX4_heatFor 38 = .ok (.ireturn, 1) := by decide +kernel
theorem dX4_kindFor_0 : decode cX4_kindFor 0 = .ok (.aload_n 0, 1) := by decide +kernel
theorem dX4_kindFor_1 : decode cX4_kindFor 1 = .ok (.getfield 10, 3) := by decide +kernel
theorem dX4_kindFor_4 : decode cX4_kindFor 4 = .ok (.iload_n 1, 1) := by decide +kernel
theorem dX4_kindFor_5 : decode cX4_kindFor 5 = .ok (.invokevirtual 76, 3) := by decide +kernel
theorem dX4_kindFor_8 : decode cX4_kindFor 8 = .ok (.ifCond .eq 13, 3) := by decide +kernel
theorem dX4_kindFor_11 : decode cX4_kindFor 11 = .ok (.iload_n 2, 1) := by decide +kernel
theorem dX4_kindFor_12 : decode cX4_kindFor 12 = .ok (.iconst 0, 1) := by decide +kernel
theorem dX4_kindFor_13 : decode cX4_kindFor 13 = .ok (.bipush 60, 2) := by decide +kernel
theorem dX4_kindFor_15 : decode cX4_kindFor 15 = .ok (.invokestatic 53, 3) := by decide +kernel
theorem dX4_kindFor_18 : decode cX4_kindFor 18 = .ok (.ifCond .ne 9, 3) := by decide +kernel
theorem dX4_kindFor_21 : decode cX4_kindFor 21 = .ok (.aload_n 0, 1) := by decide +kernel
theorem dX4_kindFor_22 : decode cX4_kindFor 22 = .ok (.iconst 0, 1) := by decide +kernel
theorem dX4_kindFor_23 : decode cX4_kindFor 23 = .ok (.invokevirtual 57, 3) := by decide +kernel
theorem dX4_kindFor_26 : decode cX4_kindFor 26 = .ok (.ireturn, 1) := by decide +kernel
theorem dX4_kindFor_27 : decode cX4_kindFor 27 = .ok (.aload_n 0, 1) := by decide +kernel
theorem dX4_kindFor_28 : decode cX4_kindFor 28 = .ok (.iconst 0, 1) := by decide +kernel
theorem dX4_kindFor_29 : decode cX4_kindFor 29 = .ok (.iload_n 1, 1) := by decide +kernel
theorem dX4_kindFor_30 : decode cX4_kindFor 30 = .ok (.iadd, 1) := by decide +kernel
theorem dX4_kindFor_31 : decode cX4_kindFor 31 = .ok (.bipush 6, 2) := by decide +kernel
theorem dX4_kindFor_33 : decode cX4_kindFor 33 = .ok (.iload_n 2, 1) := by decide +kernel
theorem dX4_kindFor_34 : decode cX4_kindFor 34 = .ok (.invokevirtual 145, 3) := by decide +kernel
theorem dX4_kindFor_37 : decode cX4_kindFor 37 = .ok (.ireturn, 1) := by decide +kernel
theorem dX4_clayFor_0 : decode cX4_clayFor 0 = .ok (.aload_n 0, 1) := by decide +kernel
theorem dX4_clayFor_1 : decode cX4_clayFor 1 = .ok (.getfield 10, 3) := by decide +kernel
theorem dX4_clayFor_4 : decode cX4_clayFor 4 = .ok (.iload_n 1, 1) := by decide +kernel
theorem dX4_clayFor_5 : decode cX4_clayFor 5 = .ok (.invokevirtual 76, 3) := by decide +kernel
theorem dX4_clayFor_8 : decode cX4_clayFor 8 = .ok (.ifCond .eq 13, 3) := by decide +kernel
theorem dX4_clayFor_11 : decode cX4_clayFor 11 = .ok (.iload_n 2, 1) := by decide +kernel
theorem dX4_clayFor_12 : decode cX4_clayFor 12 = .ok (.iconst 0, 1) := by decide +kernel
theorem dX4_clayFor_13 : decode cX4_clayFor 13 = .ok (.bipush 60, 2) := by decide +kernel
theorem dX4_clayFor_15 : decode cX4_clayFor 15 = .ok (.invokestatic 53, 3) := by decide +kernel
theorem dX4_clayFor_18 : decode cX4_clayFor 18 = .ok (.ifCond .ne 9, 3) := by decide +kernel
theorem dX4_clayFor_21 : decode cX4_clayFor 21 = .ok (.aload_n 0, 1) := by decide +kernel
theorem dX4_clayFor_22 : decode cX4_clayFor 22 = .ok (.iconst 0, 1) := by decide +kernel
theorem dX4_clayFor_23 : decode cX4_clayFor 23 = .ok (.invokevirtual 57, 3) := by decide +kernel
theorem dX4_clayFor_26 : decode cX4_clayFor 26 = .ok (.ireturn, 1) := by decide +kernel
theorem dX4_clayFor_27 : decode cX4_clayFor 27 = .ok (.bipush 40, 2) := by decide +kernel
theorem dX4_clayFor_29 : decode cX4_clayFor 29 = .ok (.iload_n 1, 1) := by decide +kernel
theorem dX4_clayFor_30 : decode cX4_clayFor 30 = .ok (.iadd, 1) := by decide +kernel
theorem dX4_clayFor_31 : decode cX4_clayFor 31 = .ok (.istore_n 3, 1) := by decide +kernel
theorem dX4_clayFor_32 : decode cX4_clayFor 32 = .ok (.iconst 1, 1) := by decide +kernel
theorem dX4_clayFor_33 : decode cX4_clayFor 33 = .ok (.istore 4, 2) := by decide +kernel
theorem dX4_clayFor_35 : decode cX4_clayFor 35 = .ok (.iload 4, 2) := by decide +kernel
theorem dX4_clayFor_37 : decode cX4_clayFor 37 = .ok (.bipush 20, 2) := by decide +kernel
theorem dX4_clayFor_39 : decode cX4_clayFor 39 = .ok (.if_icmp .gt 61, 3) := by decide +kernel
theorem dX4_clayFor_42 : decode cX4_clayFor 42 = .ok (.aload_n 0, 1) := by decide +kernel
theorem dX4_clayFor_43 : decode cX4_clayFor 43 = .ok (.getfield 16, 3) := by decide +kernel
theorem dX4_clayFor_46 : decode cX4_clayFor 46 = .ok (.aload_n 0, 1) := by decide +kernel
theorem dX4_clayFor_47 : decode cX4_clayFor 47 = .ok (.getfield 10, 3) := by decide +kernel
theorem dX4_clayFor_50 : decode cX4_clayFor 50 = .ok (.invokevirtual 138, 3) := by decide +kernel
theorem dX4_clayFor_53 : decode cX4_clayFor 53 = .ok (.aload_n 0, 1) := by decide +kernel
theorem dX4_clayFor_54 : decode cX4_clayFor 54 = .ok (.getfield 16, 3) := by decide +kernel
theorem dX4_clayFor_57 : decode cX4_clayFor 57 = .ok (.iload 4, 2) := by decide +kernel
theorem dX4_clayFor_59 : decode cX4_clayFor 59 = .ok (.putfield 61, 3) := by decide +kernel
theorem dX4_clayFor_62 : decode cX4_clayFor 62 = .ok (.aload_n 0, 1) := by decide +kernel
theorem dX4_clayFor_63 : decode cX4_clayFor 63 = .ok (.getfield 16, 3) := by decide +kernel
theorem dX4_clayFor_66 : decode cX4_clayFor 66 = .ok (.iload_n 2, 1) := by decide +kernel
theorem dX4_clayFor_67 : decode cX4_clayFor 67 = .ok (.invokevirtual 115, 3) := by decide +kernel
theorem dX4_clayFor_70 : decode cX4_clayFor 70 = .ok (.aload_n 0, 1) := by decide +kernel
theorem dX4_clayFor_71 : decode cX4_clayFor 71 = .ok (.getfield 16, 3) := by decide +kernel
theorem dX4_clayFor_74 : decode cX4_clayFor 74 = .ok (.getfield 87, 3) := by decide +kernel
theorem dX4_clayFor_77 : decode cX4_clayFor 77 = .ok (.iload_n 3, 1) := by decide +kernel
theorem dX4_clayFor_78 : decode cX4_clayFor 78 = .ok (.iaload, 1) := by decide +kernel
theorem dX4_clayFor_79 : decode cX4_clayFor 79 = .ok (.aload_n 0, 1) := by decide +kernel
theorem dX4_clayFor_80 : decode cX4_clayFor 80 = .ok (.getfield 10, 3) := by decide +kernel
theorem dX4_clayFor_83 : decode cX4_clayFor 83 = .ok (.getfield 87, 3) := by decide +kernel
theorem dX4_clayFor_86 : decode cX4_clayFor 86 = .ok (.iload_n 3, 1) := by decide +kernel
theorem dX4_clayFor_87 : decode cX4_clayFor 87 = .ok (.iaload, 1) := by decide +kernel
theorem dX4_clayFor_88 : decode cX4_clayFor 88 = .ok (.if_icmp .ne 6, 3) := by decide +kernel
theorem dX4_clayFor_91 : decode cX4_clayFor 91 = .ok (.iload 4, 2) := by decide +kernel
theorem dX4_clayFor_93 : decode cX4_clayFor 93 = .ok (.ireturn, 1) := by decide +kernel
theorem dX4_clayFor_94 : decode cX4_clayFor 94 = .ok (.iinc 4 1, 3) := by decide +kernel
theorem dX4_clayFor_97 : decode cX4_clayFor 97 = .ok (.goto (-62), 3) := by decide +kernel
theorem dX4_clayFor_100 : decode cX4_clayFor 100 = .ok (.aload_n 0, 1) := by decide +kernel
theorem dX4_clayFor_101 : decode cX4_clayFor 101 = .ok (.iconst 3, 1) := by decide +kernel
theorem dX4_clayFor_102 : decode cX4_clayFor 102 = .ok (.invokevirtual 57, 3) := by decide +kernel
theorem dX4_clayFor_105 : decode cX4_clayFor 105 = .ok (.ireturn, 1) := by decide +kernel
theorem dX4_reconcile_0 : decode cX4_reconcile 0 = .ok (.iload_n 1, 1) := by decide +kernel
theorem dX4_reconcile_1 : decode cX4_reconcile 1 = .ok (.iconst 0, 1) := by decide +kernel
theorem dX4_reconcile_2 : decode cX4_reconcile 2 = .ok (.bipush 20, 2) := by decide +kernel
theorem dX4_reconcile_4 : decode cX4_reconcile 4 = .ok (.invokestatic 53, 3) := by decide +kernel
theorem dX4_reconcile_7 : decode cX4_reconcile 7 = .ok (.ifCond .ne 9, 3) := by decide +kernel
theorem dX4_reconcile_10 : decode cX4_reconcile 10 = .ok (.aload_n 0, 1) := by decide +kernel
theorem dX4_reconcile_11 : decode cX4_reconcile 11 = .ok (.iconst 0, 1) := by decide +kernel
theorem dX4_reconcile_12 : decode cX4_reconcile 12 = .ok (.invokevirtual 57, 3) := by decide +kernel
theorem dX4_reconcile_15 : decode cX4_reconcile 15 = .ok (.ireturn, 1) := by decide +kernel
theorem dX4_reconcile_16 : decode cX4_reconcile 16 = .ok (.iconst 1, 1) := by decide +kernel
theorem dX4_reconcile_17 : decode cX4_reconcile 17 = .ok (.aload_n 0, 1) := by decide +kernel
theorem dX4_reconcile_18 : decode cX4_reconcile 18 = .ok (.getfield 10, 3) := by decide +kernel
theorem dX4_reconcile_21 : decode cX4_reconcile 21 = .ok (.getfield 142, 3) := by decide +kernel
theorem dX4_reconcile_24 : decode cX4_reconcile 24 = .ok (.ishl, 1) := by decide +kernel
theorem dX4_reconcile_25 : decode cX4_reconcile 25 = .ok (.istore_n 2, 1) := by decide +kernel
theorem dX4_reconcile_26 : decode cX4_reconcile 26 = .ok (.iconst (-1), 1) := by decide +kernel
theorem dX4_reconcile_27 : decode cX4_reconcile 27 = .ok (.istore_n 3, 1) := by decide +kernel
theorem dX4_reconcile_28 : decode cX4_reconcile 28 = .ok (.iconst 0, 1) := by decide +kernel
theorem dX4_reconcile_29 : decode cX4_reconcile 29 = .ok (.istore 4, 2) := by decide +kernel
theorem dX4_reconcile_31 : decode cX4_reconcile 31 = .ok (.iload 4, 2) := by decide +kernel
theorem dX4_reconcile_33 : decode cX4_reconcile 33 = .ok (.iload_n 2, 1) := by decide +kernel
theorem dX4_reconcile_34 : decode cX4_reconcile 34 = .ok (.if_icmp .ge 50, 3) := by decide +kernel
theorem dX4_reconcile_37 : decode cX4_reconcile 37 = .ok (.iload_n 3, 1) := by decide +kernel
theorem dX4_reconcile_38 : decode cX4_reconcile 38 = .ok (.ifCond .lt 15, 3) := by decide +kernel
theorem dX4_reconcile_41 : decode cX4_reconcile 41 = .ok (.iload 4, 2) := by decide +kernel
theorem dX4_reconcile_43 : decode cX4_reconcile 43 = .ok (.invokestatic 148, 3) := by decide +kernel
theorem dX4_reconcile_46 : decode cX4_reconcile 46 = .ok (.iload_n 3, 1) := by decide +kernel
theorem dX4_reconcile_47 : decode cX4_reconcile 47 = .ok (.invokestatic 148, 3) := by decide +kernel
theorem dX4_reconcile_50 : decode cX4_reconcile 50 = .ok (.if_icmp .ge 7, 3) := by decide +kernel
theorem dX4_reconcile_53 : decode cX4_reconcile 53 = .ok (.iconst 1, 1) := by decide +kernel
theorem dX4_reconcile_54 : decode cX4_reconcile 54 = .ok (.goto 4, 3) := by decide +kernel
theorem dX4_reconcile_57 : decode cX4_reconcile 57 = .ok (.iconst 0, 1) := by decide +kernel
theorem dX4_reconcile_58 : decode cX4_reconcile 58 = .ok (.istore 5, 2) := by decide +kernel
theorem dX4_reconcile_60 : decode cX4_reconcile 60 = .ok (.iload 5, 2) := by decide +kernel
theorem dX4_reconcile_62 : decode cX4_reconcile 62 = .ok (.ifCond .eq 16, 3) := by decide +kernel
theorem dX4_reconcile_65 : decode cX4_reconcile 65 = .ok (.aload_n 0, 1) := by decide +kernel
theorem dX4_reconcile_66 : decode cX4_reconcile 66 = .ok (.iload 4, 2) := by decide +kernel
theorem dX4_reconcile_68 : decode cX4_reconcile 68 = .ok (.iload_n 1, 1) := by decide +kernel
theorem dX4_reconcile_69 : decode cX4_reconcile 69 = .ok (.invokevirtual 153, 3) := by decide +kernel
theorem dX4_reconcile_72 : decode cX4_reconcile 72 = .ok (.ifCond .eq 6, 3) := by decide +kernel
theorem dX4_reconcile_75 : decode cX4_reconcile 75 = .ok (.iload 4, 2) := by decide +kernel
theorem dX4_reconcile_77 : decode cX4_reconcile 77 = .ok (.istore_n 3, 1) := by decide +kernel
theorem dX4_reconcile_78 : decode cX4_reconcile 78 = .ok (.iinc 4 1, 3) := by decide +kernel
theorem dX4_reconcile_81 : decode cX4_reconcile 81 = .ok (.goto (-50), 3) := by decide +kernel
theorem dX4_reconcile_84 : decode cX4_reconcile 84 = .ok (.iload_n 3, 1) := by decide +kernel
theorem dX4_reconcile_85 : decode cX4_reconcile 85 = .ok (.ifCond .ge 11, 3) := by decide +kernel
theorem dX4_reconcile_88 : decode cX4_reconcile 88 = .ok (.aload_n 0, 1) := by decide +kernel
theorem dX4_reconcile_89 : decode cX4_reconcile 89 = .ok (.iconst 3, 1) := by decide +kernel
theorem dX4_reconcile_90 : decode cX4_reconcile 90 = .ok (.invokevirtual 57, 3) := by decide +kernel
theorem dX4_reconcile_93 : decode cX4_reconcile 93 = .ok (.goto 4, 3) := by decide +kernel
theorem dX4_reconcile_96 : decode cX4_reconcile 96 = .ok (.iload_n 3, 1) := by decide +kernel
theorem dX4_reconcile_97 : decode cX4_reconcile 97 = .ok (.ireturn, 1) := by decide +kernel
theorem dX4_fits_0 : decode cX4_fits 0 = .ok (.iload_n 1, 1) := by decide +kernel
theorem dX4_fits_1 : decode cX4_fits 1 = .ok (.iconst 0, 1) := by decide +kernel
theorem dX4_fits_2 : decode cX4_fits 2 = .ok (.iconst 3, 1) := by decide +kernel
theorem dX4_fits_3 : decode cX4_fits 3 = .ok (.invokestatic 53, 3) := by decide +kernel
theorem dX4_fits_6 : decode cX4_fits 6 = .ok (.ifCond .ne 9, 3) := by decide +kernel
theorem dX4_fits_9 : decode cX4_fits 9 = .ok (.aload_n 0, 1) := by decide +kernel
theorem dX4_fits_10 : decode cX4_fits 10 = .ok (.iconst 0, 1) := by decide +kernel
theorem dX4_fits_11 : decode cX4_fits 11 = .ok (.invokevirtual 57, 3) := by decide +kernel
theorem dX4_fits_14 : decode cX4_fits 14 = .ok (.ireturn, 1) := by decide +kernel
theorem dX4_fits_15 : decode cX4_fits 15 = .ok (.aload_n 0, 1) := by decide +kernel
theorem dX4_fits_16 : decode cX4_fits 16 = .ok (.getfield 45, 3) := by decide +kernel
theorem dX4_fits_19 : decode cX4_fits 19 = .ok (.iload_n 1, 1) := by decide +kernel
theorem dX4_fits_20 : decode cX4_fits 20 = .ok (.invokevirtual 156, 3) := by decide +kernel
theorem dX4_fits_23 : decode cX4_fits 23 = .ok (.ifCond .eq 9, 3) := by decide +kernel
theorem dX4_fits_26 : decode cX4_fits 26 = .ok (.aload_n 0, 1) := by decide +kernel
theorem dX4_fits_27 : decode cX4_fits 27 = .ok (.iconst 5, 1) := by decide +kernel
theorem dX4_fits_28 : decode cX4_fits 28 = .ok (.invokevirtual 57, 3) := by decide +kernel
theorem dX4_fits_31 : decode cX4_fits 31 = .ok (.ireturn, 1) := by decide +kernel
theorem dX4_fits_32 : decode cX4_fits 32 = .ok (.aload_n 0, 1) := by decide +kernel
theorem dX4_fits_33 : decode cX4_fits 33 = .ok (.getfield 10, 3) := by decide +kernel
theorem dX4_fits_36 : decode cX4_fits 36 = .ok (.iload_n 2, 1) := by decide +kernel
theorem dX4_fits_37 : decode cX4_fits 37 = .ok (.iload_n 3, 1) := by decide +kernel
theorem dX4_fits_38 : decode cX4_fits 38 = .ok (.invokevirtual 90, 3) := by decide +kernel
theorem dX4_fits_41 : decode cX4_fits 41 = .ok (.ifCond .ne 9, 3) := by decide +kernel
theorem dX4_fits_44 : decode cX4_fits 44 = .ok (.aload_n 0, 1) := by decide +kernel
theorem dX4_fits_45 : decode cX4_fits 45 = .ok (.iconst 0, 1) := by decide +kernel
theorem dX4_fits_46 : decode cX4_fits 46 = .ok (.invokevirtual 57, 3) := by decide +kernel
theorem dX4_fits_49 : decode cX4_fits 49 = .ok (.ireturn, 1) := by decide +kernel
theorem dX4_fits_50 : decode cX4_fits 50 = .ok (.iconst 0, 1) := by decide +kernel
theorem dX4_fits_51 : decode cX4_fits 51 = .ok (.istore 4, 2) := by decide +kernel
theorem dX4_fits_53 : decode cX4_fits 53 = .ok (.iconst 0, 1) := by decide +kernel
theorem dX4_fits_54 : decode cX4_fits 54 = .ok (.istore 5, 2) := by decide +kernel
theorem dX4_fits_56 : decode cX4_fits 56 = .ok (.iload 5, 2) := by decide +kernel
theorem dX4_fits_58 : decode cX4_fits 58 = .ok (.bipush 99, 2) := by decide +kernel
theorem dX4_fits_60 : decode cX4_fits 60 = .ok (.if_icmp .gt 44, 3) := by decide +kernel
theorem dX4_fits_63 : decode cX4_fits 63 = .ok (.aload_n 0, 1) := by decide +kernel
theorem dX4_fits_64 : decode cX4_fits 64 = .ok (.getfield 16, 3) := by decide +kernel
theorem dX4_fits_67 : decode cX4_fits 67 = .ok (.aload_n 0, 1) := by decide +kernel
theorem dX4_fits_68 : decode cX4_fits 68 = .ok (.getfield 10, 3) := by decide +kernel
theorem dX4_fits_71 : decode cX4_fits 71 = .ok (.invokevirtual 138, 3) := by decide +kernel
theorem dX4_fits_74 : decode cX4_fits 74 = .ok (.aload_n 0, 1) := by decide +kernel
theorem dX4_fits_75 : decode cX4_fits 75 = .ok (.getfield 16, 3) := by decide +kernel
theorem dX4_fits_78 : decode cX4_fits 78 = .ok (.iload_n 2, 1) := by decide +kernel
theorem dX4_fits_79 : decode cX4_fits 79 = .ok (.iload_n 3, 1) := by decide +kernel
theorem dX4_fits_80 : decode cX4_fits 80 = .ok (.iload 5, 2) := by decide +kernel
theorem dX4_fits_82 : decode cX4_fits 82 = .ok (.invokevirtual 97, 3) := by decide +kernel
theorem dX4_fits_85 : decode cX4_fits 85 = .ok (.aload_n 0, 1) := by decide +kernel
theorem dX4_fits_86 : decode cX4_fits 86 = .ok (.iload_n 1, 1) := by decide +kernel
theorem dX4_fits_87 : decode cX4_fits 87 = .ok (.iload_n 2, 1) := by decide +kernel
theorem dX4_fits_88 : decode cX4_fits 88 = .ok (.iload_n 3, 1) := by decide +kernel
theorem dX4_fits_89 : decode cX4_fits 89 = .ok (.invokevirtual 159, 3) := by decide +kernel
theorem dX4_fits_92 : decode cX4_fits 92 = .ok (.ifCond .eq 6, 3) := by decide +kernel
theorem dX4_fits_95 : decode cX4_fits 95 = .ok (.iinc 4 1, 3) := by decide +kernel
theorem dX4_fits_98 : decode cX4_fits 98 = .ok (.iinc 5 1, 3) := by decide +kernel
theorem dX4_fits_101 : decode cX4_fits 101 = .ok (.goto (-45), 3) := by decide +kernel
theorem dX4_fits_104 : decode cX4_fits 104 = .ok (.iload 4, 2) := by decide +kernel
theorem dX4_fits_106 : decode cX4_fits 106 = .ok (.ireturn, 1) := by decide +kernel
theorem dX4_kinds_0 : decode cX4_kinds 0 = .ok (.iload_n 1, 1) := by decide +kernel
theorem dX4_kinds_1 : decode cX4_kinds 1 = .ok (.iconst 0, 1) := by decide +kernel
theorem dX4_kinds_2 : decode cX4_kinds 2 = .ok (.iconst 3, 1) := by decide +kernel
theorem dX4_kinds_3 : decode cX4_kinds 3 = .ok (.invokestatic 53, 3) := by decide +kernel
theorem dX4_kinds_6 : decode cX4_kinds 6 = .ok (.ifCond .ne 9, 3) := by decide +kernel
theorem dX4_kinds_9 : decode cX4_kinds 9 = .ok (.aload_n 0, 1) := by decide +kernel
theorem dX4_kinds_10 : decode cX4_kinds 10 = .ok (.iconst 0, 1) := by decide +kernel
theorem dX4_kinds_11 : decode cX4_kinds 11 = .ok (.invokevirtual 57, 3) := by decide +kernel
theorem dX4_kinds_14 : decode cX4_kinds 14 = .ok (.ireturn, 1) := by decide +kernel
theorem dX4_kinds_15 : decode cX4_kinds 15 = .ok (.aload_n 0, 1) := by decide +kernel
theorem dX4_kinds_16 : decode cX4_kinds 16 = .ok (.getfield 45, 3) := by decide +kernel
theorem dX4_kinds_19 : decode cX4_kinds 19 = .ok (.iload_n 1, 1) := by decide +kernel
theorem dX4_kinds_20 : decode cX4_kinds 20 = .ok (.invokevirtual 156, 3) := by decide +kernel
theorem dX4_kinds_23 : decode cX4_kinds 23 = .ok (.ifCond .eq 9, 3) := by decide +kernel
theorem dX4_kinds_26 : decode cX4_kinds 26 = .ok (.aload_n 0, 1) := by decide +kernel
theorem dX4_kinds_27 : decode cX4_kinds 27 = .ok (.iconst 5, 1) := by decide +kernel
theorem dX4_kinds_28 : decode cX4_kinds 28 = .ok (.invokevirtual 57, 3) := by decide +kernel
theorem dX4_kinds_31 : decode cX4_kinds 31 = .ok (.ireturn, 1) := by decide +kernel
theorem dX4_kinds_32 : decode cX4_kinds 32 = .ok (.aload_n 0, 1) := by decide +kernel
theorem dX4_kinds_33 : decode cX4_kinds 33 = .ok (.getfield 10, 3) := by decide +kernel
theorem dX4_kinds_36 : decode cX4_kinds 36 = .ok (.iload_n 2, 1) := by decide +kernel
theorem dX4_kinds_37 : decode cX4_kinds 37 = .ok (.invokevirtual 76, 3) := by decide +kernel
theorem dX4_kinds_40 : decode cX4_kinds 40 = .ok (.ifCond .ne 9, 3) := by decide +kernel
theorem dX4_kinds_43 : decode cX4_kinds 43 = .ok (.aload_n 0, 1) := by decide +kernel
theorem dX4_kinds_44 : decode cX4_kinds 44 = .ok (.iconst 0, 1) := by decide +kernel
theorem dX4_kinds_45 : decode cX4_kinds 45 = .ok (.invokevirtual 57, 3) := by decide +kernel
theorem dX4_kinds_48 : decode cX4_kinds 48 = .ok (.ireturn, 1) := by decide +kernel
theorem dX4_kinds_49 : decode cX4_kinds 49 = .ok (.iconst 0, 1) := by decide +kernel
theorem dX4_kinds_50 : decode cX4_kinds 50 = .ok (.istore_n 3, 1) := by decide +kernel
theorem dX4_kinds_51 : decode cX4_kinds 51 = .ok (.iconst 0, 1) := by decide +kernel
theorem dX4_kinds_52 : decode cX4_kinds 52 = .ok (.istore 4, 2) := by decide +kernel
theorem dX4_kinds_54 : decode cX4_kinds 54 = .ok (.iload 4, 2) := by decide +kernel
theorem dX4_kinds_56 : decode cX4_kinds 56 = .ok (.bipush 6, 2) := by decide +kernel
theorem dX4_kinds_58 : decode cX4_kinds 58 = .ok (.if_icmp .gt 49, 3) := by decide +kernel
theorem dX4_kinds_61 : decode cX4_kinds 61 = .ok (.aload_n 0, 1) := by decide +kernel
theorem dX4_kinds_62 : decode cX4_kinds 62 = .ok (.getfield 16, 3) := by decide +kernel
theorem dX4_kinds_65 : decode cX4_kinds 65 = .ok (.aload_n 0, 1) := by decide +kernel
theorem dX4_kinds_66 : decode cX4_kinds 66 = .ok (.getfield 10, 3) := by decide +kernel
theorem dX4_kinds_69 : decode cX4_kinds 69 = .ok (.invokevirtual 138, 3) := by decide +kernel
theorem dX4_kinds_72 : decode cX4_kinds 72 = .ok (.aload_n 0, 1) := by decide +kernel
theorem dX4_kinds_73 : decode cX4_kinds 73 = .ok (.getfield 16, 3) := by decide +kernel
theorem dX4_kinds_76 : decode cX4_kinds 76 = .ok (.getfield 87, 3) := by decide +kernel
theorem dX4_kinds_79 : decode cX4_kinds 79 = .ok (.iconst 0, 1) := by decide +kernel
theorem dX4_kinds_80 : decode cX4_kinds 80 = .ok (.iload_n 2, 1) := by decide +kernel
theorem dX4_kinds_81 : decode cX4_kinds 81 = .ok (.iadd, 1) := by decide +kernel
theorem dX4_kinds_82 : decode cX4_kinds 82 = .ok (.iload 4, 2) := by decide +kernel
theorem dX4_kinds_84 : decode cX4_kinds 84 = .ok (.iastore, 1) := by decide +kernel
theorem dX4_kinds_85 : decode cX4_kinds 85 = .ok (.aload_n 0, 1) := by decide +kernel
theorem dX4_kinds_86 : decode cX4_kinds 86 = .ok (.iload_n 1, 1) := by decide +kernel
theorem dX4_kinds_87 : decode cX4_kinds 87 = .ok (.iload_n 2, 1) := by decide +kernel
theorem dX4_kinds_88 : decode cX4_kinds 88 = .ok (.invokevirtual 162, 3) := by decide +kernel
theorem dX4_kinds_91 : decode cX4_kinds 91 = .ok (.ifCond .eq 10, 3) := by decide +kernel
theorem dX4_kinds_94 : decode cX4_kinds 94 = .ok (.iload_n 3, 1) := by decide +kernel
theorem dX4_kinds_95 : decode cX4_kinds 95 = .ok (.iconst 1, 1) := by decide +kernel
theorem dX4_kinds_96 : decode cX4_kinds 96 = .ok (.iload 4, 2) := by decide +kernel
theorem dX4_kinds_98 : decode cX4_kinds 98 = .ok (.ishl, 1) := by decide +kernel
theorem dX4_kinds_99 : decode cX4_kinds 99 = .ok (.ior, 1) := by decide +kernel
theorem dX4_kinds_100 : decode cX4_kinds 100 = .ok (.istore_n 3, 1) := by decide +kernel
theorem dX4_kinds_101 : decode cX4_kinds 101 = .ok (.iinc 4 1, 3) := by decide +kernel
theorem dX4_kinds_104 : decode cX4_kinds 104 = .ok (.goto (-50), 3) := by decide +kernel
theorem dX4_kinds_107 : decode cX4_kinds 107 = .ok (.iload_n 3, 1) := by decide +kernel
theorem dX4_kinds_108 : decode cX4_kinds 108 = .ok (.ireturn, 1) := by decide +kernel
theorem dX4_market_0 : decode cX4_market 0 = .ok (.iload_n 1, 1) := by decide +kernel
theorem dX4_market_1 : decode cX4_market 1 = .ok (.iconst 1, 1) := by decide +kernel
theorem dX4_market_2 : decode cX4_market 2 = .ok (.bipush 20, 2) := by decide +kernel
theorem dX4_market_4 : decode cX4_market 4 = .ok (.invokestatic 53, 3) := by decide +kernel
theorem dX4_market_7 : decode cX4_market 7 = .ok (.ifCond .ne 9, 3) := by decide +kernel
theorem dX4_market_10 : decode cX4_market 10 = .ok (.aload_n 0, 1) := by decide +kernel
theorem dX4_market_11 : decode cX4_market 11 = .ok (.iconst 0, 1) := by decide +kernel
theorem dX4_market_12 : decode cX4_market 12 = .ok (.invokevirtual 57, 3) := by decide +kernel
theorem dX4_market_15 : decode cX4_market 15 = .ok (.ireturn, 1) := by decide +kernel
theorem dX4_market_16 : decode cX4_market 16 = .ok (.aload_n 0, 1) := by decide +kernel
theorem dX4_market_17 : decode cX4_market 17 = .ok (.getfield 10, 3) := by decide +kernel
theorem dX4_market_20 : decode cX4_market 20 = .ok (.getfield 111, 3) := by decide +kernel
theorem dX4_market_23 : decode cX4_market 23 = .ok (.iload_n 1, 1) := by decide +kernel
theorem dX4_market_24 : decode cX4_market 24 = .ok (.iadd, 1) := by decide +kernel
theorem dX4_market_25 : decode cX4_market 25 = .ok (.ldc 114, 2) := by decide +kernel
theorem dX4_market_27 : decode cX4_market 27 = .ok (.if_icmp .le 9, 3) := by decide +kernel
theorem dX4_market_30 : decode cX4_market 30 = .ok (.aload_n 0, 1) := by decide +kernel
theorem dX4_market_31 : decode cX4_market 31 = .ok (.iconst 4, 1) := by decide +kernel
theorem dX4_market_32 : decode cX4_market 32 = .ok (.invokevirtual 57, 3) := by decide +kernel
theorem dX4_market_35 : decode cX4_market 35 = .ok (.ireturn, 1) := by decide +kernel
theorem dX4_market_36 : decode cX4_market 36 = .ok (.iconst 0, 1) := by decide +kernel
theorem dX4_market_37 : decode cX4_market 37 = .ok (.istore_n 2, 1) := by decide +kernel
theorem dX4_market_38 : decode cX4_market 38 = .ok (.iload_n 2, 1) := by decide +kernel
theorem dX4_market_39 : decode cX4_market 39 = .ok (.iload_n 1, 1) := by decide +kernel
theorem dX4_market_40 : decode cX4_market 40 = .ok (.if_icmp .ge 24, 3) := by decide +kernel
theorem dX4_market_43 : decode cX4_market 43 = .ok (.aload_n 0, 1) := by decide +kernel
theorem dX4_market_44 : decode cX4_market 44 = .ok (.getfield 10, 3) := by decide +kernel
theorem dX4_market_47 : decode cX4_market 47 = .ok (.invokevirtual 165, 3) := by decide +kernel
theorem dX4_market_50 : decode cX4_market 50 = .ok (.aload_n 0, 1) := by decide +kernel
theorem dX4_market_51 : decode cX4_market 51 = .ok (.getfield 10, 3) := by decide +kernel
theorem dX4_market_54 : decode cX4_market 54 = .ok (.iconst 1, 1) := by decide +kernel
theorem dX4_market_55 : decode cX4_market 55 = .ok (.invokevirtual 115, 3) := by decide +kernel
theorem dX4_market_58 : decode cX4_market 58 = .ok (.iinc 2 1, 3) := by decide +kernel
theorem dX4_market_61 : decode cX4_market 61 = .ok (.goto (-23), 3) := by decide +kernel
theorem dX4_market_64 : decode cX4_market 64 = .ok (.aload_n 0, 1) := by decide +kernel
theorem dX4_market_65 : decode cX4_market 65 = .ok (.getfield 10, 3) := by decide +kernel
theorem dX4_market_68 : decode cX4_market 68 = .ok (.getfield 119, 3) := by decide +kernel
theorem dX4_market_71 : decode cX4_market 71 = .ok (.ireturn, 1) := by decide +kernel
theorem dX4_odds_0 : decode cX4_odds 0 = .ok (.aload_n 0, 1) := by decide +kernel
theorem dX4_odds_1 : decode cX4_odds 1 = .ok (.getfield 10, 3) := by decide +kernel
theorem dX4_odds_4 : decode cX4_odds 4 = .ok (.iload_n 1, 1) := by decide +kernel
theorem dX4_odds_5 : decode cX4_odds 5 = .ok (.iload_n 2, 1) := by decide +kernel
theorem dX4_odds_6 : decode cX4_odds 6 = .ok (.invokevirtual 90, 3) := by decide +kernel
theorem dX4_odds_9 : decode cX4_odds 9 = .ok (.ifCond .eq 23, 3) := by decide +kernel
theorem dX4_odds_12 : decode cX4_odds 12 = .ok (.iload_n 3, 1) := by decide +kernel
theorem dX4_odds_13 : decode cX4_odds 13 = .ok (.iconst 0, 1) := by decide +kernel
theorem dX4_odds_14 : decode cX4_odds 14 = .ok (.bipush 14, 2) := by decide +kernel
theorem dX4_odds_16 : decode cX4_odds 16 = .ok (.invokestatic 53, 3) := by decide +kernel
theorem dX4_odds_19 : decode cX4_odds 19 = .ok (.ifCond .eq 13, 3) := by decide +kernel
theorem dX4_odds_22 : decode cX4_odds 22 = .ok (.iload 4, 2) := by decide +kernel
theorem dX4_odds_24 : decode cX4_odds 24 = .ok (.iconst 0, 1) := by decide +kernel
theorem dX4_odds_25 : decode cX4_odds 25 = .ok (.iconst 1, 1) := by decide +kernel
theorem dX4_odds_26 : decode cX4_odds 26 = .ok (.invokestatic 53, 3) := by decide +kernel
theorem dX4_odds_29 : decode cX4_odds 29 = .ok (.ifCond .ne 10, 3) := by decide +kernel
theorem dX4_odds_32 : decode cX4_odds 32 = .ok (.aload_n 0, 1) := by decide +kernel
theorem dX4_odds_33 : decode cX4_odds 33 = .ok (.iconst 0, 1) := by decide +kernel
theorem dX4_odds_34 : decode cX4_odds 34 = .ok (.invokevirtual 57, 3) := by decide +kernel
theorem dX4_odds_37 : decode cX4_odds 37 = .ok (.i2l, 1) := by decide +kernel
theorem dX4_odds_38 : decode cX4_odds 38 = .ok (.lreturn, 1) := by decide +kernel
theorem dX4_odds_39 : decode cX4_odds 39 = .ok (.aload_n 0, 1) := by decide +kernel
theorem dX4_odds_40 : decode cX4_odds 40 = .ok (.getfield 10, 3) := by decide +kernel
theorem dX4_odds_43 : decode cX4_odds 43 = .ok (.iload_n 1, 1) := by decide +kernel
theorem dX4_odds_44 : decode cX4_odds 44 = .ok (.iload_n 2, 1) := by decide +kernel
theorem dX4_odds_45 : decode cX4_odds 45 = .ok (.invokevirtual 168, 3) := by decide +kernel
theorem dX4_odds_48 : decode cX4_odds 48 = .ok (.istore 5, 2) := by decide +kernel
theorem dX4_odds_50 : decode cX4_odds 50 = .ok (.iload 5, 2) := by decide +kernel
theorem dX4_odds_52 : decode cX4_odds 52 = .ok (.bipush 20, 2) := by decide +kernel
theorem dX4_odds_54 : decode cX4_odds 54 = .ok (.invokestatic 171, 3) := by decide +kernel
theorem dX4_odds_57 : decode cX4_odds 57 = .ok (.istore 6, 2) := by decide +kernel
theorem dX4_odds_59 : decode cX4_odds 59 = .ok (.iload 4, 2) := by decide +kernel
theorem dX4_odds_61 : decode cX4_odds 61 = .ok (.ifCond .ne 8, 3) := by decide +kernel
theorem dX4_odds_64 : decode cX4_odds 64 = .ok (.iload 5, 2) := by decide +kernel
theorem dX4_odds_66 : decode cX4_odds 66 = .ok (.goto 5, 3) := by decide +kernel
theorem dX4_odds_69 : decode cX4_odds 69 = .ok (.bipush 20, 2) := by decide +kernel
theorem dX4_odds_71 : decode cX4_odds 71 = .ok (.istore 7, 2) := by decide +kernel
theorem dX4_odds_73 : decode cX4_odds 73 = .ok (.iload 7, 2) := by decide +kernel
theorem dX4_odds_75 : decode cX4_odds 75 = .ok (.iload 6, 2) := by decide +kernel
theorem dX4_odds_77 : decode cX4_odds 77 = .ok (.idiv, 1) := by decide +kernel
theorem dX4_odds_78 : decode cX4_odds 78 = .ok (.iload_n 3, 1) := by decide +kernel
theorem dX4_odds_79 : decode cX4_odds 79 = .ok (.invokestatic 174, 3) := by decide +kernel
theorem dX4_odds_82 : decode cX4_odds 82 = .ok (.lreturn, 1) := by decide +kernel
theorem dX4_seed_0 : decode cX4_seed 0 = .ok (.aload_n 0, 1) := by decide +kernel
theorem dX4_seed_1 : decode cX4_seed 1 = .ok (.getfield 10, 3) := by decide +kernel
theorem dX4_seed_4 : decode cX4_seed 4 = .ok (.getfield 178, 3) := by decide +kernel
theorem dX4_seed_7 : decode cX4_seed 7 = .ok (.istore_n 2, 1) := by decide +kernel
theorem dX4_seed_8 : decode cX4_seed 8 = .ok (.aload_n 0, 1) := by decide +kernel
theorem dX4_seed_9 : decode cX4_seed 9 = .ok (.getfield 10, 3) := by decide +kernel
theorem dX4_seed_12 : decode cX4_seed 12 = .ok (.iload_n 1, 1) := by decide +kernel
theorem dX4_seed_13 : decode cX4_seed 13 = .ok (.putfield 178, 3) := by decide +kernel
theorem dX4_seed_16 : decode cX4_seed 16 = .ok (.iload_n 2, 1) := by decide +kernel
theorem dX4_seed_17 : decode cX4_seed 17 = .ok (.ireturn, 1) := by decide +kernel
theorem dX4_feed_0 : decode cX4_feed 0 = .ok (.iload_n 2, 1) := by decide +kernel
theorem dX4_feed_1 : decode cX4_feed 1 = .ok (.iconst 1, 1) := by decide +kernel
theorem dX4_feed_2 : decode cX4_feed 2 = .ok (.iconst 4, 1) := by decide +kernel
theorem dX4_feed_3 : decode cX4_feed 3 = .ok (.invokestatic 53, 3) := by decide +kernel
theorem dX4_feed_6 : decode cX4_feed 6 = .ok (.ifCond .ne 9, 3) := by decide +kernel
theorem dX4_feed_9 : decode cX4_feed 9 = .ok (.aload_n 0, 1) := by decide +kernel
theorem dX4_feed_10 : decode cX4_feed 10 = .ok (.iconst 0, 1) := by decide +kernel
theorem dX4_feed_11 : decode cX4_feed 11 = .ok (.invokevirtual 57, 3) := by decide +kernel
theorem dX4_feed_14 : decode cX4_feed 14 = .ok (.ireturn, 1) := by decide +kernel
theorem dX4_feed_15 : decode cX4_feed 15 = .ok (.aload_n 0, 1) := by decide +kernel
theorem dX4_feed_16 : decode cX4_feed 16 = .ok (.getfield 29, 3) := by decide +kernel
theorem dX4_feed_19 : decode cX4_feed 19 = .ok (.getfield 181, 3) := by decide +kernel
theorem dX4_feed_22 : decode cX4_feed 22 = .ok (.iload_n 2, 1) := by decide +kernel
theorem dX4_feed_23 : decode cX4_feed 23 = .ok (.iadd, 1) := by decide +kernel
theorem dX4_feed_24 : decode cX4_feed 24 = .ok (.bipush 120, 2) := by decide +kernel
theorem dX4_feed_26 : decode cX4_feed 26 = .ok (.if_icmp .le 9, 3) := by decide +kernel
theorem dX4_feed_29 : decode cX4_feed 29 = .ok (.aload_n 0, 1) := by decide +kernel
theorem dX4_feed_30 : decode cX4_feed 30 = .ok (.iconst 1, 1) := by decide +kernel
theorem dX4_feed_31 : decode cX4_feed 31 = .ok (.invokevirtual 57, 3) := by decide +kernel
theorem dX4_feed_34 : decode cX4_feed 34 = .ok (.ireturn, 1) := by decide +kernel
theorem dX4_feed_35 : decode cX4_feed 35 = .ok (.iload_n 2, 1) := by decide +kernel
theorem dX4_feed_36 : decode cX4_feed 36 = .ok (.iconst 1, 1) := by decide +kernel
theorem dX4_feed_37 : decode cX4_feed 37 = .ok (.isub, 1) := by decide +kernel
theorem dX4_feed_38 : decode cX4_feed 38 = .ok (.istore_n 3, 1) := by decide +kernel
theorem dX4_feed_39 : decode cX4_feed 39 = .ok (.iload_n 3, 1) := by decide +kernel
theorem dX4_feed_40 : decode cX4_feed 40 = .ok (.ifCond .lt 26, 3) := by decide +kernel
theorem dX4_feed_43 : decode cX4_feed 43 = .ok (.aload_n 0, 1) := by decide +kernel
theorem dX4_feed_44 : decode cX4_feed 44 = .ok (.getfield 29, 3) := by decide +kernel
theorem dX4_feed_47 : decode cX4_feed 47 = .ok (.iload_n 1, 1) := by decide +kernel
theorem dX4_feed_48 : decode cX4_feed 48 = .ok (.bipush 8, 2) := by decide +kernel
theorem dX4_feed_50 : decode cX4_feed 50 = .ok (.iload_n 3, 1) := by decide +kernel
theorem dX4_feed_51 : decode cX4_feed 51 = .ok (.imul, 1) := by decide +kernel
theorem dX4_feed_52 : decode cX4_feed 52 = .ok (.iushr, 1) := by decide +kernel
theorem dX4_feed_53 : decode cX4_feed 53 = .ok (.sipush 255, 3) := by decide +kernel
theorem dX4_feed_56 : decode cX4_feed 56 = .ok (.iand, 1) := by decide +kernel
theorem dX4_feed_57 : decode cX4_feed 57 = .ok (.invokevirtual 184, 3) := by decide +kernel
theorem dX4_feed_60 : decode cX4_feed 60 = .ok (.iinc 3 (-1), 3) := by decide +kernel
theorem dX4_feed_63 : decode cX4_feed 63 = .ok (.goto (-24), 3) := by decide +kernel
theorem dX4_feed_66 : decode cX4_feed 66 = .ok (.aload_n 0, 1) := by decide +kernel
theorem dX4_feed_67 : decode cX4_feed 67 = .ok (.getfield 29, 3) := by decide +kernel
theorem dX4_feed_70 : decode cX4_feed 70 = .ok (.getfield 181, 3) := by decide +kernel
theorem dX4_feed_73 : decode cX4_feed 73 = .ok (.ireturn, 1) := by decide +kernel
theorem dX4_wipe_0 : decode cX4_wipe 0 = .ok (.aload_n 0, 1) := by decide +kernel
theorem dX4_wipe_1 : decode cX4_wipe 1 = .ok (.getfield 29, 3) := by decide +kernel
theorem dX4_wipe_4 : decode cX4_wipe 4 = .ok (.getfield 181, 3) := by decide +kernel
theorem dX4_wipe_7 : decode cX4_wipe 7 = .ok (.istore_n 1, 1) := by decide +kernel
theorem dX4_wipe_8 : decode cX4_wipe 8 = .ok (.aload_n 0, 1) := by decide +kernel
theorem dX4_wipe_9 : decode cX4_wipe 9 = .ok (.getfield 29, 3) := by decide +kernel
theorem dX4_wipe_12 : decode cX4_wipe 12 = .ok (.iconst 0, 1) := by decide +kernel
theorem dX4_wipe_13 : decode cX4_wipe 13 = .ok (.putfield 181, 3) := by decide +kernel
theorem dX4_wipe_16 : decode cX4_wipe 16 = .ok (.iload_n 1, 1) := by decide +kernel
theorem dX4_wipe_17 : decode cX4_wipe 17 = .ok (.ireturn, 1) := by decide +kernel
theorem dX4_text_0 : decode cX4_text 0 = .ok (.aload_n 0, 1) := by decide +kernel
theorem dX4_text_1 : decode cX4_text 1 = .ok (.getfield 16, 3) := by decide +kernel
theorem dX4_text_4 : decode cX4_text 4 = .ok (.aload_n 0, 1) := by decide +kernel
theorem dX4_text_5 : decode cX4_text 5 = .ok (.getfield 10, 3) := by decide +kernel
theorem dX4_text_8 : decode cX4_text 8 = .ok (.invokevirtual 138, 3) := by decide +kernel
theorem dX4_text_11 : decode cX4_text 11 = .ok (.aload_n 0, 1) := by decide +kernel
theorem dX4_text_12 : decode cX4_text 12 = .ok (.getfield 38, 3) := by decide +kernel
theorem dX4_text_15 : decode cX4_text 15 = .ok (.invokevirtual 187, 3) := by decide +kernel
theorem dX4_text_18 : decode cX4_text 18 = .ok (.aload_n 0, 1) := by decide +kernel
theorem dX4_text_19 : decode cX4_text 19 = .ok (.getfield 38, 3) := by decide +kernel
theorem dX4_text_22 : decode cX4_text 22 = .ok (.invokevirtual 190, 3) := by decide +kernel
theorem dX4_text_25 : decode cX4_text 25 = .ok (.istore_n 1, 1) := by decide +kernel
theorem dX4_text_26 : decode cX4_text 26 = .ok (.aload_n 0, 1) := by decide +kernel
theorem dX4_text_27 : decode cX4_text 27 = .ok (.getfield 29, 3) := by decide +kernel
theorem dX4_text_30 : decode cX4_text 30 = .ok (.iconst 0, 1) := by decide +kernel
theorem dX4_text_31 : decode cX4_text 31 = .ok (.putfield 181, 3) := by decide +kernel
theorem dX4_text_34 : decode cX4_text 34 = .ok (.aload_n 0, 1) := by decide +kernel
theorem dX4_text_35 : decode cX4_text 35 = .ok (.getfield 38, 3) := by decide +kernel
theorem dX4_text_38 : decode cX4_text 38 = .ok (.invokevirtual 193, 3) := by decide +kernel
theorem dX4_text_41 : decode cX4_text 41 = .ok (.ifCond .eq 13, 3) := by decide +kernel
theorem dX4_text_44 : decode cX4_text 44 = .ok (.iconst (-1), 1) := by decide +kernel
theorem dX4_text_45 : decode cX4_text 45 = .ok (.aload_n 0, 1) := by decide +kernel
theorem dX4_text_46 : decode cX4_text 46 = .ok (.getfield 38, 3) := by decide +kernel
theorem dX4_text_49 : decode cX4_text 49 = .ok (.getfield 196, 3) := by decide +kernel
theorem dX4_text_52 : decode cX4_text 52 = .ok (.isub, 1) := by decide +kernel
theorem dX4_text_53 : decode cX4_text 53 = .ok (.ireturn, 1) := by decide +kernel
theorem dX4_text_54 : decode cX4_text 54 = .ok (.aload_n 0, 1) := by decide +kernel
theorem dX4_text_55 : decode cX4_text 55 = .ok (.getfield 10, 3) := by decide +kernel
theorem dX4_text_58 : decode cX4_text 58 = .ok (.aload_n 0, 1) := by decide +kernel
theorem dX4_text_59 : decode cX4_text 59 = .ok (.getfield 16, 3) := by decide +kernel
theorem dX4_text_62 : decode cX4_text 62 = .ok (.invokevirtual 138, 3) := by decide +kernel
theorem dX4_text_65 : decode cX4_text 65 = .ok (.iload_n 1, 1) := by decide +kernel
theorem dX4_text_66 : decode cX4_text 66 = .ok (.ireturn, 1) := by decide +kernel
theorem dX4_hold_0 : decode cX4_hold 0 = .ok (.iload_n 1, 1) := by decide +kernel
theorem dX4_hold_1 : decode cX4_hold 1 = .ok (.iconst 0, 1) := by decide +kernel
theorem dX4_hold_2 : decode cX4_hold 2 = .ok (.bipush 9, 2) := by decide +kernel
theorem dX4_hold_4 : decode cX4_hold 4 = .ok (.invokestatic 53, 3) := by decide +kernel
theorem dX4_hold_7 : decode cX4_hold 7 = .ok (.ifCond .eq 19, 3) := by decide +kernel
theorem dX4_hold_10 : decode cX4_hold 10 = .ok (.iload_n 2, 1) := by decide +kernel
theorem dX4_hold_11 : decode cX4_hold 11 = .ok (.iconst (-1), 1) := by decide +kernel
theorem dX4_hold_12 : decode cX4_hold 12 = .ok (.if_icmp .eq 20, 3) := by decide +kernel
theorem dX4_hold_15 : decode cX4_hold 15 = .ok (.aload_n 0, 1) := by decide +kernel
theorem dX4_hold_16 : decode cX4_hold 16 = .ok (.getfield 10, 3) := by decide +kernel
theorem dX4_hold_19 : decode cX4_hold 19 = .ok (.iload_n 2, 1) := by decide +kernel
theorem dX4_hold_20 : decode cX4_hold 20 = .ok (.invokevirtual 76, 3) := by decide +kernel
theorem dX4_hold_23 : decode cX4_hold 23 = .ok (.ifCond .ne 9, 3) := by decide +kernel
theorem dX4_hold_26 : decode cX4_hold 26 = .ok (.aload_n 0, 1) := by decide +kernel
theorem dX4_hold_27 : decode cX4_hold 27 = .ok (.iconst 0, 1) := by decide +kernel
theorem dX4_hold_28 : decode cX4_hold 28 = .ok (.invokevirtual 57, 3) := by decide +kernel
theorem dX4_hold_31 : decode cX4_hold 31 = .ok (.ireturn, 1) := by decide +kernel
theorem dX4_hold_32 : decode cX4_hold 32 = .ok (.aload_n 0, 1) := by decide +kernel
theorem dX4_hold_33 : decode cX4_hold 33 = .ok (.getfield 10, 3) := by decide +kernel
theorem dX4_hold_36 : decode cX4_hold 36 = .ok (.getfield 199, 3) := by decide +kernel
theorem dX4_hold_39 : decode cX4_hold 39 = .ok (.iload_n 1, 1) := by decide +kernel
theorem dX4_hold_40 : decode cX4_hold 40 = .ok (.iload_n 2, 1) := by decide +kernel
theorem dX4_hold_41 : decode cX4_hold 41 = .ok (.iastore, 1) := by decide +kernel
theorem dX4_hold_42 : decode cX4_hold 42 = .ok (.iconst 1, 1) := by decide +kernel
theorem dX4_hold_43 : decode cX4_hold 43 = .ok (.ireturn, 1) := by decide +kernel
theorem dX4_as_0 : decode cX4_as 0 = .ok (.iload_n 1, 1) := by decide +kernel
theorem dX4_as_1 : decode cX4_as 1 = .ok (.iconst 0, 1) := by decide +kernel
theorem dX4_as_2 : decode cX4_as 2 = .ok (.bipush 9, 2) := by decide +kernel
theorem dX4_as_4 : decode cX4_as 4 = .ok (.invokestatic 53, 3) := by decide +kernel
theorem dX4_as_7 : decode cX4_as 7 = .ok (.ifCond .eq 13, 3) := by decide +kernel
theorem dX4_as_10 : decode cX4_as 10 = .ok (.iload_n 2, 1) := by decide +kernel
theorem dX4_as_11 : decode cX4_as 11 = .ok (.iconst 0, 1) := by decide +kernel
theorem dX4_as_12 : decode cX4_as 12 = .ok (.bipush 6, 2) := by decide +kernel
theorem dX4_as_14 : decode cX4_as 14 = .ok (.invokestatic 53, 3) := by decide +kernel
theorem dX4_as_17 : decode cX4_as 17 = .ok (.ifCond .ne 9, 3) := by decide +kernel
theorem dX4_as_20 : decode cX4_as 20 = .ok (.aload_n 0, 1) := by decide +kernel
theorem dX4_as_21 : decode cX4_as 21 = .ok (.iconst 0, 1) := by decide +kernel
theorem dX4_as_22 : decode cX4_as 22 = .ok (.invokevirtual 57, 3) := by decide +kernel
theorem dX4_as_25 : decode cX4_as 25 = .ok (.ireturn, 1) := by decide +kernel
theorem dX4_as_26 : decode cX4_as 26 = .ok (.aload_n 0, 1) := by decide +kernel
theorem dX4_as_27 : decode cX4_as 27 = .ok (.getfield 10, 3) := by decide +kernel
theorem dX4_as_30 : decode cX4_as 30 = .ok (.getfield 199, 3) := by decide +kernel
theorem dX4_as_33 : decode cX4_as 33 = .ok (.iload_n 1, 1) := by decide +kernel
theorem dX4_as_34 : decode cX4_as 34 = .ok (.iaload, 1) := by decide +kernel
theorem dX4_as_35 : decode cX4_as 35 = .ok (.istore_n 3, 1) := by decide +kernel
theorem dX4_as_36 : decode cX4_as 36 = .ok (.aload_n 0, 1) := by decide +kernel
theorem dX4_as_37 : decode cX4_as 37 = .ok (.getfield 10, 3) := by decide +kernel
theorem dX4_as_40 : decode cX4_as 40 = .ok (.iload_n 3, 1) := by decide +kernel
theorem dX4_as_41 : decode cX4_as 41 = .ok (.invokevirtual 76, 3) := by decide +kernel
theorem dX4_as_44 : decode cX4_as 44 = .ok (.ifCond .ne 9, 3) := by decide +kernel
theorem dX4_as_47 : decode cX4_as 47 = .ok (.aload_n 0, 1) := by decide +kernel
theorem dX4_as_48 : decode cX4_as 48 = .ok (.iconst 5, 1) := by decide +kernel
theorem dX4_as_49 : decode cX4_as 49 = .ok (.invokevirtual 57, 3) := by decide +kernel
theorem dX4_as_52 : decode cX4_as 52 = .ok (.ireturn, 1) := by decide +kernel
theorem dX4_as_53 : decode cX4_as 53 = .ok (.aload_n 0, 1) := by decide +kernel
theorem dX4_as_54 : decode cX4_as 54 = .ok (.getfield 10, 3) := by decide +kernel
theorem dX4_as_57 : decode cX4_as 57 = .ok (.getfield 87, 3) := by decide +kernel
theorem dX4_as_60 : decode cX4_as 60 = .ok (.iconst 0, 1) := by decide +kernel
theorem dX4_as_61 : decode cX4_as 61 = .ok (.iload_n 3, 1) := by decide +kernel
theorem dX4_as_62 : decode cX4_as 62 = .ok (.iadd, 1) := by decide +kernel
theorem dX4_as_63 : decode cX4_as 63 = .ok (.iaload, 1) := by decide +kernel
theorem dX4_as_64 : decode cX4_as 64 = .ok (.iload_n 2, 1) := by decide +kernel
theorem dX4_as_65 : decode cX4_as 65 = .ok (.invokestatic 202, 3) := by decide +kernel
theorem dX4_as_68 : decode cX4_as 68 = .ok (.ifCond .ne 9, 3) := by decide +kernel
theorem dX4_as_71 : decode cX4_as 71 = .ok (.aload_n 0, 1) := by decide +kernel
theorem dX4_as_72 : decode cX4_as 72 = .ok (.iconst 2, 1) := by decide +kernel
theorem dX4_as_73 : decode cX4_as 73 = .ok (.invokevirtual 57, 3) := by decide +kernel
theorem dX4_as_76 : decode cX4_as 76 = .ok (.ireturn, 1) := by decide +kernel
theorem dX4_as_77 : decode cX4_as 77 = .ok (.iload_n 3, 1) := by decide +kernel
theorem dX4_as_78 : decode cX4_as 78 = .ok (.ireturn, 1) := by decide +kernel
theorem dX4_sheet_0 : decode cX4_sheet 0 = .ok (.iload_n 2, 1) := by decide +kernel
theorem dX4_sheet_1 : decode cX4_sheet 1 = .ok (.ifCond .eq 21, 3) := by decide +kernel
theorem dX4_sheet_4 : decode cX4_sheet 4 = .ok (.iload_n 2, 1) := by decide +kernel
theorem dX4_sheet_5 : decode cX4_sheet 5 = .ok (.bipush 8, 2) := by decide +kernel
theorem dX4_sheet_7 : decode cX4_sheet 7 = .ok (.if_icmp .eq 15, 3) := by decide +kernel
theorem dX4_sheet_10 : decode cX4_sheet 10 = .ok (.iload_n 2, 1) := by decide +kernel
theorem dX4_sheet_11 : decode cX4_sheet 11 = .ok (.bipush 16, 2) := by decide +kernel
theorem dX4_sheet_13 : decode cX4_sheet 13 = .ok (.if_icmp .eq 9, 3) := by decide +kernel
theorem dX4_sheet_16 : decode cX4_sheet 16 = .ok (.iload_n 2, 1) := by decide +kernel
theorem dX4_sheet_17 : decode cX4_sheet 17 = .ok (.bipush 32, 2) := by decide +kernel
theorem dX4_sheet_19 : decode cX4_sheet 19 = .ok (.if_icmp .ne 7, 3) := by decide +kernel
theorem dX4_sheet_22 : decode cX4_sheet 22 = .ok (.iconst 1, 1) := by decide +kernel
theorem dX4_sheet_23 : decode cX4_sheet 23 = .ok (.goto 4, 3) := by decide +kernel
theorem dX4_sheet_26 : decode cX4_sheet 26 = .ok (.iconst 0, 1) := by decide +kernel
theorem dX4_sheet_27 : decode cX4_sheet 27 = .ok (.istore 4, 2) := by decide +kernel
theorem dX4_sheet_29 : decode cX4_sheet 29 = .ok (.iload_n 1, 1) := by decide +kernel
theorem dX4_sheet_30 : decode cX4_sheet 30 = .ok (.iconst 0, 1) := by decide +kernel
theorem dX4_sheet_31 : decode cX4_sheet 31 = .ok (.iconst 3, 1) := by decide +kernel
theorem dX4_sheet_32 : decode cX4_sheet 32 = .ok (.invokestatic 53, 3) := by decide +kernel
theorem dX4_sheet_35 : decode cX4_sheet 35 = .ok (.ifCond .eq 8, 3) := by decide +kernel
theorem dX4_sheet_38 : decode cX4_sheet 38 = .ok (.iload 4, 2) := by decide +kernel
theorem dX4_sheet_40 : decode cX4_sheet 40 = .ok (.ifCond .ne 9, 3) := by decide +kernel
theorem dX4_sheet_43 : decode cX4_sheet 43 = .ok (.aload_n 0, 1) := by decide +kernel
theorem dX4_sheet_44 : decode cX4_sheet 44 = .ok (.iconst 0, 1) := by decide +kernel
theorem dX4_sheet_45 : decode cX4_sheet 45 = .ok (.invokevirtual 57, 3) := by decide +kernel
theorem dX4_sheet_48 : decode cX4_sheet 48 = .ok (.ireturn, 1) := by decide +kernel
theorem dX4_sheet_49 : decode cX4_sheet 49 = .ok (.iload_n 3, 1) := by decide +kernel
theorem dX4_sheet_50 : decode cX4_sheet 50 = .ok (.ifCond .ge 10, 3) := by decide +kernel
theorem dX4_sheet_53 : decode cX4_sheet 53 = .ok (.aload_n 0, 1) := by decide +kernel
theorem dX4_sheet_54 : decode cX4_sheet 54 = .ok (.bipush 6, 2) := by decide +kernel
theorem dX4_sheet_56 : decode cX4_sheet 56 = .ok (.invokevirtual 57, 3) := by decide +kernel
theorem dX4_sheet_59 : decode cX4_sheet 59 = .ok (.ireturn, 1) := by decide +kernel
theorem dX4_sheet_60 : decode cX4_sheet 60 = .ok (.iload_n 3, 1) := by decide +kernel
theorem dX4_sheet_61 : decode cX4_sheet 61 = .ok (.bipush 40, 2) := by decide +kernel
theorem dX4_sheet_63 : decode cX4_sheet 63 = .ok (.if_icmp .le 9, 3) := by decide +kernel
theorem dX4_sheet_66 : decode cX4_sheet 66 = .ok (.aload_n 0, 1) := by decide +kernel
theorem dX4_sheet_67 : decode cX4_sheet 67 = .ok (.iconst 0, 1) := by decide +kernel
theorem dX4_sheet_68 : decode cX4_sheet 68 = .ok (.invokevirtual 57, 3) := by decide +kernel
theorem dX4_sheet_71 : decode cX4_sheet 71 = .ok (.ireturn, 1) := by decide +kernel
theorem dX4_sheet_72 : decode cX4_sheet 72 = .ok (.iload_n 2, 1) := by decide +kernel
theorem dX4_sheet_73 : decode cX4_sheet 73 = .ok (.ifCond .ne 7, 3) := by decide +kernel
theorem dX4_sheet_76 : decode cX4_sheet 76 = .ok (.iconst 0, 1) := by decide +kernel
theorem dX4_sheet_77 : decode cX4_sheet 77 = .ok (.goto 4, 3) := by decide +kernel
theorem dX4_sheet_80 : decode cX4_sheet 80 = .ok (.iload_n 3, 1) := by decide +kernel
theorem dX4_sheet_81 : decode cX4_sheet 81 = .ok (.istore 5, 2) := by decide +kernel
theorem dX4_sheet_83 : decode cX4_sheet 83 = .ok (.aload_n 0, 1) := by decide +kernel
theorem dX4_sheet_84 : decode cX4_sheet 84 = .ok (.getfield 45, 3) := by decide +kernel
theorem dX4_sheet_87 : decode cX4_sheet 87 = .ok (.iload_n 1, 1) := by decide +kernel
theorem dX4_sheet_88 : decode cX4_sheet 88 = .ok (.iload_n 2, 1) := by decide +kernel
theorem dX4_sheet_89 : decode cX4_sheet 89 = .ok (.iload 5, 2) := by decide +kernel
theorem dX4_sheet_91 : decode cX4_sheet 91 = .ok (.invokevirtual 205, 3) := by decide +kernel
theorem dX4_sheet_94 : decode cX4_sheet 94 = .ok (.iload 5, 2) := by decide +kernel
theorem dX4_sheet_96 : decode cX4_sheet 96 = .ok (.ireturn, 1) := by decide +kernel
theorem dX4_write_0 : decode cX4_write 0 = .ok (.iload_n 1, 1) := by decide +kernel
theorem dX4_write_1 : decode cX4_write 1 = .ok (.iconst 0, 1) := by decide +kernel
theorem dX4_write_2 : decode cX4_write 2 = .ok (.iconst 3, 1) := by decide +kernel
theorem dX4_write_3 : decode cX4_write 3 = .ok (.invokestatic 53, 3) := by decide +kernel
theorem dX4_write_6 : decode cX4_write 6 = .ok (.ifCond .ne 9, 3) := by decide +kernel
theorem dX4_write_9 : decode cX4_write 9 = .ok (.aload_n 0, 1) := by decide +kernel
theorem dX4_write_10 : decode cX4_write 10 = .ok (.iconst 0, 1) := by decide +kernel
theorem dX4_write_11 : decode cX4_write 11 = .ok (.invokevirtual 57, 3) := by decide +kernel
theorem dX4_write_14 : decode cX4_write 14 = .ok (.ireturn, 1) := by decide +kernel
theorem dX4_write_15 : decode cX4_write 15 = .ok (.aload_n 0, 1) := by decide +kernel
theorem dX4_write_16 : decode cX4_write 16 = .ok (.getfield 45, 3) := by decide +kernel
theorem dX4_write_19 : decode cX4_write 19 = .ok (.iload_n 1, 1) := by decide +kernel
theorem dX4_write_20 : decode cX4_write 20 = .ok (.invokevirtual 156, 3) := by decide +kernel
theorem dX4_write_23 : decode cX4_write 23 = .ok (.ifCond .eq 9, 3) := by decide +kernel
theorem dX4_write_26 : decode cX4_write 26 = .ok (.aload_n 0, 1) := by decide +kernel
theorem dX4_write_27 : decode cX4_write 27 = .ok (.iconst 5, 1) := by decide +kernel
theorem dX4_write_28 : decode cX4_write 28 = .ok (.invokevirtual 57, 3) := by decide +kernel
theorem dX4_write_31 : decode cX4_write 31 = .ok (.ireturn, 1) := by decide +kernel
theorem dX4_write_32 : decode cX4_write 32 = .ok (.iload_n 2, 1) := by decide +kernel
theorem dX4_write_33 : decode cX4_write 33 = .ok (.iconst 0, 1) := by decide +kernel
theorem dX4_write_34 : decode cX4_write 34 = .ok (.aload_n 0, 1) := by decide +kernel
theorem dX4_write_35 : decode cX4_write 35 = .ok (.getfield 45, 3) := by decide +kernel
theorem dX4_write_38 : decode cX4_write 38 = .ok (.getfield 208, 3) := by decide +kernel
theorem dX4_write_41 : decode cX4_write 41 = .ok (.iload_n 1, 1) := by decide +kernel
theorem dX4_write_42 : decode cX4_write 42 = .ok (.iaload, 1) := by decide +kernel
theorem dX4_write_43 : decode cX4_write 43 = .ok (.iconst 1, 1) := by decide +kernel
theorem dX4_write_44 : decode cX4_write 44 = .ok (.isub, 1) := by decide +kernel
theorem dX4_write_45 : decode cX4_write 45 = .ok (.invokestatic 53, 3) := by decide +kernel
theorem dX4_write_48 : decode cX4_write 48 = .ok (.ifCond .ne 9, 3) := by decide +kernel
theorem dX4_write_51 : decode cX4_write 51 = .ok (.aload_n 0, 1) := by decide +kernel
theorem dX4_write_52 : decode cX4_write 52 = .ok (.iconst 0, 1) := by decide +kernel
theorem dX4_write_53 : decode cX4_write 53 = .ok (.invokevirtual 57, 3) := by decide +kernel
theorem dX4_write_56 : decode cX4_write 56 = .ok (.ireturn, 1) := by decide +kernel
theorem dX4_write_57 : decode cX4_write 57 = .ok (.aload_n 0, 1) := by decide +kernel
theorem dX4_write_58 : decode cX4_write 58 = .ok (.getfield 45, 3) := by decide +kernel
theorem dX4_write_61 : decode cX4_write 61 = .ok (.iload_n 1, 1) := by decide +kernel
theorem dX4_write_62 : decode cX4_write 62 = .ok (.iload_n 2, 1) := by decide +kernel
theorem dX4_write_63 : decode cX4_write 63 = .ok (.iload_n 3, 1) := by decide +kernel
theorem dX4_write_64 : decode cX4_write 64 = .ok (.invokevirtual 211, 3) := by decide +kernel
theorem dX4_write_67 : decode cX4_write 67 = .ok (.iconst 1, 1) := by decide +kernel
theorem dX4_write_68 : decode cX4_write 68 = .ok (.ireturn, 1) := by decide +kernel
theorem dX4_copy_0 : decode cX4_copy 0 = .ok (.iload_n 1, 1) := by decide +kernel
theorem dX4_copy_1 : decode cX4_copy 1 = .ok (.iconst 0, 1) := by decide +kernel
theorem dX4_copy_2 : decode cX4_copy 2 = .ok (.iconst 3, 1) := by decide +kernel
theorem dX4_copy_3 : decode cX4_copy 3 = .ok (.invokestatic 53, 3) := by decide +kernel
theorem dX4_copy_6 : decode cX4_copy 6 = .ok (.ifCond .eq 12, 3) := by decide +kernel
theorem dX4_copy_9 : decode cX4_copy 9 = .ok (.iload_n 3, 1) := by decide +kernel
theorem dX4_copy_10 : decode cX4_copy 10 = .ok (.iconst 0, 1) := by decide +kernel
theorem dX4_copy_11 : decode cX4_copy 11 = .ok (.iconst 3, 1) := by decide +kernel
theorem dX4_copy_12 : decode cX4_copy 12 = .ok (.invokestatic 53, 3) := by decide +kernel
theorem dX4_copy_15 : decode cX4_copy 15 = .ok (.ifCond .ne 9, 3) := by decide +kernel
theorem dX4_copy_18 : decode cX4_copy 18 = .ok (.aload_n 0, 1) := by decide +kernel
theorem dX4_copy_19 : decode cX4_copy 19 = .ok (.iconst 0, 1) := by decide +kernel
theorem dX4_copy_20 : decode cX4_copy 20 = .ok (.invokevirtual 57, 3) := by decide +kernel
theorem dX4_copy_23 : decode cX4_copy 23 = .ok (.ireturn, 1) := by decide +kernel
theorem dX4_copy_24 : decode cX4_copy 24 = .ok (.aload_n 0, 1) := by decide +kernel
theorem dX4_copy_25 : decode cX4_copy 25 = .ok (.getfield 45, 3) := by decide +kernel
theorem dX4_copy_28 : decode cX4_copy 28 = .ok (.iload_n 1, 1) := by decide +kernel
theorem dX4_copy_29 : decode cX4_copy 29 = .ok (.invokevirtual 156, 3) := by decide +kernel
theorem dX4_copy_32 : decode cX4_copy 32 = .ok (.ifCond .ne 14, 3) := by decide +kernel
theorem dX4_copy_35 : decode cX4_copy 35 = .ok (.aload_n 0, 1) := by decide +kernel
theorem dX4_copy_36 : decode cX4_copy 36 = .ok (.getfield 45, 3) := by decide +kernel
theorem dX4_copy_39 : decode cX4_copy 39 = .ok (.iload_n 3, 1) := by decide +kernel
theorem dX4_copy_40 : decode cX4_copy 40 = .ok (.invokevirtual 156, 3) := by decide +kernel
theorem dX4_copy_43 : decode cX4_copy 43 = .ok (.ifCond .eq 9, 3) := by decide +kernel
theorem dX4_copy_46 : decode cX4_copy 46 = .ok (.aload_n 0, 1) := by decide +kernel
theorem dX4_copy_47 : decode cX4_copy 47 = .ok (.iconst 5, 1) := by decide +kernel
theorem dX4_copy_48 : decode cX4_copy 48 = .ok (.invokevirtual 57, 3) := by decide +kernel
theorem dX4_copy_51 : decode cX4_copy 51 = .ok (.ireturn, 1) := by decide +kernel
theorem dX4_copy_52 : decode cX4_copy 52 = .ok (.aload_n 0, 1) := by decide +kernel
theorem dX4_copy_53 : decode cX4_copy 53 = .ok (.getfield 45, 3) := by decide +kernel
theorem dX4_copy_56 : decode cX4_copy 56 = .ok (.getfield 214, 3) := by decide +kernel
theorem dX4_copy_59 : decode cX4_copy 59 = .ok (.iload_n 1, 1) := by decide +kernel
theorem dX4_copy_60 : decode cX4_copy 60 = .ok (.iaload, 1) := by decide +kernel
theorem dX4_copy_61 : decode cX4_copy 61 = .ok (.aload_n 0, 1) := by decide +kernel
theorem dX4_copy_62 : decode cX4_copy 62 = .ok (.getfield 45, 3) := by decide +kernel
theorem dX4_copy_65 : decode cX4_copy 65 = .ok (.getfield 214, 3) := by decide +kernel
theorem dX4_copy_68 : decode cX4_copy 68 = .ok (.iload_n 3, 1) := by decide +kernel
theorem dX4_copy_69 : decode cX4_copy 69 = .ok (.iaload, 1) := by decide +kernel
theorem dX4_copy_70 : decode cX4_copy 70 = .ok (.if_icmp .eq 9, 3) := by decide +kernel
theorem dX4_copy_73 : decode cX4_copy 73 = .ok (.aload_n 0, 1) := by decide +kernel
theorem dX4_copy_74 : decode cX4_copy 74 = .ok (.iconst 2, 1) := by decide +kernel
theorem dX4_copy_75 : decode cX4_copy 75 = .ok (.invokevirtual 57, 3) := by decide +kernel
theorem dX4_copy_78 : decode cX4_copy 78 = .ok (.ireturn, 1) := by decide +kernel
theorem dX4_copy_79 : decode cX4_copy 79 = .ok (.aload_n 0, 1) := by decide +kernel
theorem dX4_copy_80 : decode cX4_copy 80 = .ok (.getfield 45, 3) := by decide +kernel
theorem dX4_copy_83 : decode cX4_copy 83 = .ok (.iload_n 1, 1) := by decide +kernel
theorem dX4_copy_84 : decode cX4_copy 84 = .ok (.iload_n 2, 1) := by decide +kernel
theorem dX4_copy_85 : decode cX4_copy 85 = .ok (.iload 5, 2) := by decide +kernel
theorem dX4_copy_87 : decode cX4_copy 87 = .ok (.invokevirtual 217, 3) := by decide +kernel
theorem dX4_copy_90 : decode cX4_copy 90 = .ok (.ifCond .eq 18, 3) := by decide +kernel
theorem dX4_copy_93 : decode cX4_copy 93 = .ok (.aload_n 0, 1) := by decide +kernel
theorem dX4_copy_94 : decode cX4_copy 94 = .ok (.getfield 45, 3) := by decide +kernel
theorem dX4_copy_97 : decode cX4_copy 97 = .ok (.iload_n 3, 1) := by decide +kernel
theorem dX4_copy_98 : decode cX4_copy 98 = .ok (.iload 4, 2) := by decide +kernel
theorem dX4_copy_100 : decode cX4_copy 100 = .ok (.iload 5, 2) := by decide +kernel
theorem dX4_copy_102 : decode cX4_copy 102 = .ok (.invokevirtual 217, 3) := by decide +kernel
theorem dX4_copy_105 : decode cX4_copy 105 = .ok (.ifCond .ne 9, 3) := by decide +kernel
theorem dX4_copy_108 : decode cX4_copy 108 = .ok (.aload_n 0, 1) := by decide +kernel
theorem dX4_copy_109 : decode cX4_copy 109 = .ok (.iconst 0, 1) := by decide +kernel
theorem dX4_copy_110 : decode cX4_copy 110 = .ok (.invokevirtual 57, 3) := by decide +kernel
theorem dX4_copy_113 : decode cX4_copy 113 = .ok (.ireturn, 1) := by decide +kernel
theorem dX4_copy_114 : decode cX4_copy 114 = .ok (.aload_n 0, 1) := by decide +kernel
theorem dX4_copy_115 : decode cX4_copy 115 = .ok (.getfield 45, 3) := by decide +kernel
theorem dX4_copy_118 : decode cX4_copy 118 = .ok (.iload_n 1, 1) := by decide +kernel
theorem dX4_copy_119 : decode cX4_copy 119 = .ok (.iload_n 2, 1) := by decide +kernel
theorem dX4_copy_120 : decode cX4_copy 120 = .ok (.iload_n 3, 1) := by decide +kernel
theorem dX4_copy_121 : decode cX4_copy 121 = .ok (.iload 4, 2) := by decide +kernel
theorem dX4_copy_123 : decode cX4_copy 123 = .ok (.iload 5, 2) := by decide +kernel
theorem dX4_copy_125 : decode cX4_copy 125 = .ok (.invokevirtual 220, 3) := by decide +kernel
theorem dX4_copy_128 : decode cX4_copy 128 = .ok (.iload 5, 2) := by decide +kernel
theorem dX4_copy_130 : decode cX4_copy 130 = .ok (.ireturn, 1) := by decide +kernel
theorem dX4_load_0 : decode cX4_load 0 = .ok (.iload_n 1, 1) := by decide +kernel
theorem dX4_load_1 : decode cX4_load 1 = .ok (.iconst 0, 1) := by decide +kernel
theorem dX4_load_2 : decode cX4_load 2 = .ok (.iconst 3, 1) := by decide +kernel
theorem dX4_load_3 : decode cX4_load 3 = .ok (.invokestatic 53, 3) := by decide +kernel
theorem dX4_load_6 : decode cX4_load 6 = .ok (.ifCond .ne 9, 3) := by decide +kernel
theorem dX4_load_9 : decode cX4_load 9 = .ok (.aload_n 0, 1) := by decide +kernel
theorem dX4_load_10 : decode cX4_load 10 = .ok (.iconst 0, 1) := by decide +kernel
theorem dX4_load_11 : decode cX4_load 11 = .ok (.invokevirtual 57, 3) := by decide +kernel
theorem dX4_load_14 : decode cX4_load 14 = .ok (.ireturn, 1) := by decide +kernel
theorem dX4_load_15 : decode cX4_load 15 = .ok (.aload_n 0, 1) := by decide +kernel
theorem dX4_load_16 : decode cX4_load 16 = .ok (.getfield 45, 3) := by decide +kernel
theorem dX4_load_19 : decode cX4_load 19 = .ok (.iload_n 1, 1) := by decide +kernel
theorem dX4_load_20 : decode cX4_load 20 = .ok (.invokevirtual 156, 3) := by decide +kernel
theorem dX4_load_23 : decode cX4_load 23 = .ok (.ifCond .eq 9, 3) := by decide +kernel
theorem dX4_load_26 : decode cX4_load 26 = .ok (.aload_n 0, 1) := by decide +kernel
theorem dX4_load_27 : decode cX4_load 27 = .ok (.iconst 5, 1) := by decide +kernel
theorem dX4_load_28 : decode cX4_load 28 = .ok (.invokevirtual 57, 3) := by decide +kernel
theorem dX4_load_31 : decode cX4_load 31 = .ok (.ireturn, 1) := by decide +kernel
theorem dX4_load_32 : decode cX4_load 32 = .ok (.aload_n 0, 1) := by decide +kernel
theorem dX4_load_33 : decode cX4_load 33 = .ok (.getfield 45, 3) := by decide +kernel
theorem dX4_load_36 : decode cX4_load 36 = .ok (.getfield 208, 3) := by decide +kernel
theorem dX4_load_39 : decode cX4_load 39 = .ok (.iload_n 1, 1) := by decide +kernel
theorem dX4_load_40 : decode cX4_load 40 = .ok (.iaload, 1) := by decide +kernel
theorem dX4_load_41 : decode cX4_load 41 = .ok (.aload_n 0, 1) := by decide +kernel
theorem dX4_load_42 : decode cX4_load 42 = .ok (.getfield 10, 3) := by decide +kernel
theorem dX4_load_45 : decode cX4_load 45 = .ok (.getfield 142, 3) := by decide +kernel
theorem dX4_load_48 : decode cX4_load 48 = .ok (.invokestatic 224, 3) := by decide +kernel
theorem dX4_load_51 : decode cX4_load 51 = .ok (.istore_n 2, 1) := by decide +kernel
theorem dX4_load_52 : decode cX4_load 52 = .ok (.iconst 0, 1) := by decide +kernel
theorem dX4_load_53 : decode cX4_load 53 = .ok (.istore_n 3, 1) := by decide +kernel
theorem dX4_load_54 : decode cX4_load 54 = .ok (.iload_n 3, 1) := by decide +kernel
theorem dX4_load_55 : decode cX4_load 55 = .ok (.iload_n 2, 1) := by decide +kernel
theorem dX4_load_56 : decode cX4_load 56 = .ok (.if_icmp .ge 47, 3) := by decide +kernel
theorem dX4_load_59 : decode cX4_load 59 = .ok (.aload_n 0, 1) := by decide +kernel
theorem dX4_load_60 : decode cX4_load 60 = .ok (.getfield 45, 3) := by decide +kernel
theorem dX4_load_63 : decode cX4_load 63 = .ok (.iload_n 1, 1) := by decide +kernel
theorem dX4_load_64 : decode cX4_load 64 = .ok (.iload_n 3, 1) := by decide +kernel
theorem dX4_load_65 : decode cX4_load 65 = .ok (.invokevirtual 229, 3) := by decide +kernel
theorem dX4_load_68 : decode cX4_load 68 = .ok (.istore 4, 2) := by decide +kernel
theorem dX4_load_70 : decode cX4_load 70 = .ok (.iload 4, 2) := by decide +kernel
theorem dX4_load_72 : decode cX4_load 72 = .ok (.iconst 0, 1) := by decide +kernel
theorem dX4_load_73 : decode cX4_load 73 = .ok (.bipush 99, 2) := by decide +kernel
theorem dX4_load_75 : decode cX4_load 75 = .ok (.invokestatic 53, 3) := by decide +kernel
theorem dX4_load_78 : decode cX4_load 78 = .ok (.ifCond .ne 5, 3) := by decide +kernel
theorem dX4_load_81 : decode cX4_load 81 = .ok (.iload_n 3, 1) := by decide +kernel
theorem dX4_load_82 : decode cX4_load 82 = .ok (.ireturn, 1) := by decide +kernel
theorem dX4_load_83 : decode cX4_load 83 = .ok (.aload_n 0, 1) := by decide +kernel
theorem dX4_load_84 : decode cX4_load 84 = .ok (.getfield 10, 3) := by decide +kernel
theorem dX4_load_87 : decode cX4_load 87 = .ok (.getfield 87, 3) := by decide +kernel
theorem dX4_load_90 : decode cX4_load 90 = .ok (.bipush 16, 2) := by decide +kernel
theorem dX4_load_92 : decode cX4_load 92 = .ok (.iload_n 3, 1) := by decide +kernel
theorem dX4_load_93 : decode cX4_load 93 = .ok (.iadd, 1) := by decide +kernel
theorem dX4_load_94 : decode cX4_load 94 = .ok (.iload 4, 2) := by decide +kernel
theorem dX4_load_96 : decode cX4_load 96 = .ok (.iastore, 1) := by decide +kernel
theorem dX4_load_97 : decode cX4_load 97 = .ok (.iinc 3 1, 3) := by decide +kernel
theorem dX4_load_100 : decode cX4_load 100 = .ok (.goto (-46), 3) := by decide +kernel
theorem dX4_load_103 : decode cX4_load 103 = .ok (.iload_n 2, 1) := by decide +kernel
theorem dX4_load_104 : decode cX4_load 104 = .ok (.ireturn, 1) := by decide +kernel
theorem dX4_judge_0 : decode cX4_judge 0 = .ok (.iload_n 1, 1) := by decide +kernel
theorem dX4_judge_1 : decode cX4_judge 1 = .ok (.iconst 0, 1) := by decide +kernel
theorem dX4_judge_2 : decode cX4_judge 2 = .ok (.iconst 3, 1) := by decide +kernel
theorem dX4_judge_3 : decode cX4_judge 3 = .ok (.invokestatic 53, 3) := by decide +kernel
theorem dX4_judge_6 : decode cX4_judge 6 = .ok (.ifCond .ne 9, 3) := by decide +kernel
theorem dX4_judge_9 : decode cX4_judge 9 = .ok (.aload_n 0, 1) := by decide +kernel
theorem dX4_judge_10 : decode cX4_judge 10 = .ok (.iconst 0, 1) := by decide +kernel
theorem dX4_judge_11 : decode cX4_judge 11 = .ok (.invokevirtual 57, 3) := by decide +kernel
theorem dX4_judge_14 : decode cX4_judge 14 = .ok (.ireturn, 1) := by decide +kernel
theorem dX4_judge_15 : decode cX4_judge 15 = .ok (.aload_n 0, 1) := by decide +kernel
theorem dX4_judge_16 : decode cX4_judge 16 = .ok (.getfield 45, 3) := by decide +kernel
theorem dX4_judge_19 : decode cX4_judge 19 = .ok (.iload_n 1, 1) := by decide +kernel
theorem dX4_judge_20 : decode cX4_judge 20 = .ok (.invokevirtual 156, 3) := by decide +kernel
theorem dX4_judge_23 : decode cX4_judge 23 = .ok (.ifCond .eq 9, 3) := by decide +kernel
theorem dX4_judge_26 : decode cX4_judge 26 = .ok (.aload_n 0, 1) := by decide +kernel
theorem dX4_judge_27 : decode cX4_judge 27 = .ok (.iconst 5, 1) := by decide +kernel
theorem dX4_judge_28 : decode cX4_judge 28 = .ok (.invokevirtual 57, 3) := by decide +kernel
theorem dX4_judge_31 : decode cX4_judge 31 = .ok (.ireturn, 1) := by decide +kernel
theorem dX4_judge_32 : decode cX4_judge 32 = .ok (.iconst 0, 1) := by decide +kernel
theorem dX4_judge_33 : decode cX4_judge 33 = .ok (.istore_n 2, 1) := by decide +kernel
theorem dX4_judge_34 : decode cX4_judge 34 = .ok (.iload_n 2, 1) := by decide +kernel
theorem dX4_judge_35 : decode cX4_judge 35 = .ok (.aload_n 0, 1) := by decide +kernel
theorem dX4_judge_36 : decode cX4_judge 36 = .ok (.getfield 45, 3) := by decide +kernel
theorem dX4_judge_39 : decode cX4_judge 39 = .ok (.getfield 208, 3) := by decide +kernel
theorem dX4_judge_42 : decode cX4_judge 42 = .ok (.iload_n 1, 1) := by decide +kernel
theorem dX4_judge_43 : decode cX4_judge 43 = .ok (.iaload, 1) := by decide +kernel
theorem dX4_judge_44 : decode cX4_judge 44 = .ok (.if_icmp .ge 48, 3) := by decide +kernel
theorem dX4_judge_47 : decode cX4_judge 47 = .ok (.aload_n 0, 1) := by decide +kernel
theorem dX4_judge_48 : decode cX4_judge 48 = .ok (.getfield 10, 3) := by decide +kernel
theorem dX4_judge_51 : decode cX4_judge 51 = .ok (.iload_n 2, 1) := by decide +kernel
theorem dX4_judge_52 : decode cX4_judge 52 = .ok (.invokevirtual 76, 3) := by decide +kernel
theorem dX4_judge_55 : decode cX4_judge 55 = .ok (.ifCond .eq 27, 3) := by decide +kernel
theorem dX4_judge_58 : decode cX4_judge 58 = .ok (.aload_n 0, 1) := by decide +kernel
theorem dX4_judge_59 : decode cX4_judge 59 = .ok (.getfield 10, 3) := by decide +kernel
theorem dX4_judge_62 : decode cX4_judge 62 = .ok (.getfield 87, 3) := by decide +kernel
theorem dX4_judge_65 : decode cX4_judge 65 = .ok (.bipush 32, 2) := by decide +kernel
theorem dX4_judge_67 : decode cX4_judge 67 = .ok (.iload_n 2, 1) := by decide +kernel
theorem dX4_judge_68 : decode cX4_judge 68 = .ok (.iadd, 1) := by decide +kernel
theorem dX4_judge_69 : decode cX4_judge 69 = .ok (.iaload, 1) := by decide +kernel
theorem dX4_judge_70 : decode cX4_judge 70 = .ok (.aload_n 0, 1) := by decide +kernel
theorem dX4_judge_71 : decode cX4_judge 71 = .ok (.getfield 45, 3) := by decide +kernel
theorem dX4_judge_74 : decode cX4_judge 74 = .ok (.iload_n 1, 1) := by decide +kernel
theorem dX4_judge_75 : decode cX4_judge 75 = .ok (.iload_n 2, 1) := by decide +kernel
theorem dX4_judge_76 : decode cX4_judge 76 = .ok (.invokevirtual 229, 3) := by decide +kernel
theorem dX4_judge_79 : decode cX4_judge 79 = .ok (.if_icmp .eq 7, 3) := by decide +kernel
theorem dX4_judge_82 : decode cX4_judge 82 = .ok (.iconst 1, 1) := by decide +kernel
theorem dX4_judge_83 : decode cX4_judge 83 = .ok (.iload_n 2, 1) := by decide +kernel
theorem dX4_judge_84 : decode cX4_judge 84 = .ok (.iadd, 1) := by decide +kernel
theorem dX4_judge_85 : decode cX4_judge 85 = .ok (.ireturn, 1) := by decide +kernel
theorem dX4_judge_86 : decode cX4_judge 86 = .ok (.iinc 2 1, 3) := by decide +kernel
theorem dX4_judge_89 : decode cX4_judge 89 = .ok (.goto (-55), 3) := by decide +kernel
theorem dX4_judge_92 : decode cX4_judge 92 = .ok (.iconst 0, 1) := by decide +kernel
theorem dX4_judge_93 : decode cX4_judge 93 = .ok (.ireturn, 1) := by decide +kernel
theorem dX4_image_0 : decode cX4_image 0 = .ok (.aload_n 0, 1) := by decide +kernel
theorem dX4_image_1 : decode cX4_image 1 = .ok (.getfield 19, 3) := by decide +kernel
theorem dX4_image_4 : decode cX4_image 4 = .ok (.aload_n 0, 1) := by decide +kernel
theorem dX4_image_5 : decode cX4_image 5 = .ok (.getfield 10, 3) := by decide +kernel
theorem dX4_image_8 : decode cX4_image 8 = .ok (.invokevirtual 138, 3) := by decide +kernel
theorem dX4_image_11 : decode cX4_image 11 = .ok (.aload_n 0, 1) := by decide +kernel
theorem dX4_image_12 : decode cX4_image 12 = .ok (.iconst 1, 1) := by decide +kernel
theorem dX4_image_13 : decode cX4_image 13 = .ok (.putfield 22, 3) := by decide +kernel
theorem dX4_image_16 : decode cX4_image 16 = .ok (.iconst 1, 1) := by decide +kernel
theorem dX4_image_17 : decode cX4_image 17 = .ok (.ireturn, 1) := by decide +kernel
theorem dX4_undo_0 : decode cX4_undo 0 = .ok (.aload_n 0, 1) := by decide +kernel
theorem dX4_undo_1 : decode cX4_undo 1 = .ok (.getfield 22, 3) := by decide +kernel
theorem dX4_undo_4 : decode cX4_undo 4 = .ok (.ifCond .ne 9, 3) := by decide +kernel
theorem dX4_undo_7 : decode cX4_undo 7 = .ok (.aload_n 0, 1) := by decide +kernel
theorem dX4_undo_8 : decode cX4_undo 8 = .ok (.iconst 3, 1) := by decide +kernel
theorem dX4_undo_9 : decode cX4_undo 9 = .ok (.invokevirtual 57, 3) := by decide +kernel
theorem dX4_undo_12 : decode cX4_undo 12 = .ok (.ireturn, 1) := by decide +kernel
theorem dX4_undo_13 : decode cX4_undo 13 = .ok (.aload_n 0, 1) := by decide +kernel
theorem dX4_undo_14 : decode cX4_undo 14 = .ok (.getfield 10, 3) := by decide +kernel
theorem dX4_undo_17 : decode cX4_undo 17 = .ok (.aload_n 0, 1) := by decide +kernel
theorem dX4_undo_18 : decode cX4_undo 18 = .ok (.getfield 19, 3) := by decide +kernel
theorem dX4_undo_21 : decode cX4_undo 21 = .ok (.invokevirtual 138, 3) := by decide +kernel
theorem dX4_undo_24 : decode cX4_undo 24 = .ok (.aload_n 0, 1) := by decide +kernel
theorem dX4_undo_25 : decode cX4_undo 25 = .ok (.getfield 10, 3) := by decide +kernel
theorem dX4_undo_28 : decode cX4_undo 28 = .ok (.getfield 111, 3) := by decide +kernel
theorem dX4_undo_31 : decode cX4_undo 31 = .ok (.ireturn, 1) := by decide +kernel
theorem dX4_tear_0 : decode cX4_tear 0 = .ok (.aload_n 0, 1) := by decide +kernel
theorem dX4_tear_1 : decode cX4_tear 1 = .ok (.getfield 22, 3) := by decide +kernel
theorem dX4_tear_4 : decode cX4_tear 4 = .ok (.ifCond .eq 7, 3) := by decide +kernel
theorem dX4_tear_7 : decode cX4_tear 7 = .ok (.iconst 1, 1) := by decide +kernel
theorem dX4_tear_8 : decode cX4_tear 8 = .ok (.goto 4, 3) := by decide +kernel
theorem dX4_tear_11 : decode cX4_tear 11 = .ok (.iconst 0, 1) := by decide +kernel
theorem dX4_tear_12 : decode cX4_tear 12 = .ok (.istore_n 1, 1) := by decide +kernel
theorem dX4_tear_13 : decode cX4_tear 13 = .ok (.aload_n 0, 1) := by decide +kernel
theorem dX4_tear_14 : decode cX4_tear 14 = .ok (.iconst 0, 1) := by decide +kernel
theorem dX4_tear_15 : decode cX4_tear 15 = .ok (.putfield 22, 3) := by decide +kernel
theorem dX4_tear_18 : decode cX4_tear 18 = .ok (.iload_n 1, 1) := by decide +kernel
theorem dX4_tear_19 : decode cX4_tear 19 = .ok (.ireturn, 1) := by decide +kernel
theorem dX4_count_0 : decode cX4_count 0 = .ok (.iload_n 1, 1) := by decide +kernel
theorem dX4_count_1 : decode cX4_count 1 = .ok (.tableswitch 113 0 7 #[47, 55, 63, 71, 79, 89, 97, 105], 47) := by decide +kernel
theorem dX4_count_48 : decode cX4_count 48 = .ok (.aload_n 0, 1) := by decide +kernel
theorem dX4_count_49 : decode cX4_count 49 = .ok (.getfield 10, 3) := by decide +kernel
theorem dX4_count_52 : decode cX4_count 52 = .ok (.getfield 111, 3) := by decide +kernel
theorem dX4_count_55 : decode cX4_count 55 = .ok (.ireturn, 1) := by decide +kernel
theorem dX4_count_56 : decode cX4_count 56 = .ok (.aload_n 0, 1) := by decide +kernel
theorem dX4_count_57 : decode cX4_count 57 = .ok (.getfield 10, 3) := by decide +kernel
theorem dX4_count_60 : decode cX4_count 60 = .ok (.getfield 142, 3) := by decide +kernel
theorem dX4_count_63 : decode cX4_count 63 = .ok (.ireturn, 1) := by decide +kernel
theorem dX4_count_64 : decode cX4_count 64 = .ok (.aload_n 0, 1) := by decide +kernel
theorem dX4_count_65 : decode cX4_count 65 = .ok (.getfield 10, 3) := by decide +kernel
theorem dX4_count_68 : decode cX4_count 68 = .ok (.getfield 119, 3) := by decide +kernel
theorem dX4_count_71 : decode cX4_count 71 = .ok (.ireturn, 1) := by decide +kernel
theorem dX4_count_72 : decode cX4_count 72 = .ok (.aload_n 0, 1) := by decide +kernel
theorem dX4_count_73 : decode cX4_count 73 = .ok (.getfield 10, 3) := by decide +kernel
theorem dX4_count_76 : decode cX4_count 76 = .ok (.getfield 122, 3) := by decide +kernel
theorem dX4_count_79 : decode cX4_count 79 = .ok (.ireturn, 1) := by decide +kernel
theorem dX4_count_80 : decode cX4_count 80 = .ok (.aload_n 0, 1) := by decide +kernel
theorem dX4_count_81 : decode cX4_count 81 = .ok (.getfield 10, 3) := by decide +kernel
theorem dX4_count_84 : decode cX4_count 84 = .ok (.bipush 40, 2) := by decide +kernel
theorem dX4_count_86 : decode cX4_count 86 = .ok (.invokevirtual 128, 3) := by decide +kernel
theorem dX4_count_89 : decode cX4_count 89 = .ok (.ireturn, 1) := by decide +kernel
theorem dX4_count_90 : decode cX4_count 90 = .ok (.aload_n 0, 1) := by decide +kernel
theorem dX4_count_91 : decode cX4_count 91 = .ok (.getfield 29, 3) := by decide +kernel
theorem dX4_count_94 : decode cX4_count 94 = .ok (.getfield 181, 3) := by decide +kernel
theorem dX4_count_97 : decode cX4_count 97 = .ok (.ireturn, 1) := by decide +kernel
theorem dX4_count_98 : decode cX4_count 98 = .ok (.aload_n 0, 1) := by decide +kernel
theorem dX4_count_99 : decode cX4_count 99 = .ok (.getfield 10, 3) := by decide +kernel
theorem dX4_count_102 : decode cX4_count 102 = .ok (.getfield 178, 3) := by decide +kernel
theorem dX4_count_105 : decode cX4_count 105 = .ok (.ireturn, 1) := by decide +kernel
theorem dX4_count_106 : decode cX4_count 106 = .ok (.aload_n 0, 1) := by decide +kernel
theorem dX4_count_107 : decode cX4_count 107 = .ok (.getfield 10, 3) := by decide +kernel
theorem dX4_count_110 : decode cX4_count 110 = .ok (.invokevirtual 232, 3) := by decide +kernel
theorem dX4_count_113 : decode cX4_count 113 = .ok (.ireturn, 1) := by decide +kernel
theorem dX4_count_114 : decode cX4_count 114 = .ok (.aload_n 0, 1) := by decide +kernel
theorem dX4_count_115 : decode cX4_count 115 = .ok (.iconst 0, 1) := by decide +kernel
theorem dX4_count_116 : decode cX4_count 116 = .ok (.invokevirtual 57, 3) := by decide +kernel
theorem dX4_count_119 : decode cX4_count 119 = .ok (.ireturn, 1) := by decide +kernel
theorem dX4_status_0 : decode cX4_status 0 = .ok (.iload_n 1, 1) := by decide +kernel
theorem dX4_status_1 : decode cX4_status 1 = .ok (.iconst (-1), 1) := by decide +kernel
theorem dX4_status_2 : decode cX4_status 2 = .ok (.bipush 6, 2) := by decide +kernel
theorem dX4_status_4 : decode cX4_status 4 = .ok (.invokestatic 53, 3) := by decide +kernel
theorem dX4_status_7 : decode cX4_status 7 = .ok (.ifCond .ne 9, 3) := by decide +kernel
theorem dX4_status_10 : decode cX4_status 10 = .ok (.aload_n 0, 1) := by decide +kernel
theorem dX4_status_11 : decode cX4_status 11 = .ok (.iconst 0, 1) := by decide +kernel
theorem dX4_status_12 : decode cX4_status 12 = .ok (.invokevirtual 57, 3) := by decide +kernel
theorem dX4_status_15 : decode cX4_status 15 = .ok (.ireturn, 1) := by decide +kernel
theorem dX4_status_16 : decode cX4_status 16 = .ok (.iload_n 1, 1) := by decide +kernel
theorem dX4_status_17 : decode cX4_status 17 = .ok (.ifCond .lt 10, 3) := by decide +kernel
theorem dX4_status_20 : decode cX4_status 20 = .ok (.aload_n 0, 1) := by decide +kernel
theorem dX4_status_21 : decode cX4_status 21 = .ok (.getfield 49, 3) := by decide +kernel
theorem dX4_status_24 : decode cX4_status 24 = .ok (.iload_n 1, 1) := by decide +kernel
theorem dX4_status_25 : decode cX4_status 25 = .ok (.iaload, 1) := by decide +kernel
theorem dX4_status_26 : decode cX4_status 26 = .ok (.ireturn, 1) := by decide +kernel
theorem dX4_status_27 : decode cX4_status 27 = .ok (.iconst 0, 1) := by decide +kernel
theorem dX4_status_28 : decode cX4_status 28 = .ok (.istore_n 2, 1) := by decide +kernel
theorem dX4_status_29 : decode cX4_status 29 = .ok (.iconst 0, 1) := by decide +kernel
theorem dX4_status_30 : decode cX4_status 30 = .ok (.istore_n 3, 1) := by decide +kernel
theorem dX4_status_31 : decode cX4_status 31 = .ok (.iload_n 3, 1) := by decide +kernel
theorem dX4_status_32 : decode cX4_status 32 = .ok (.bipush 7, 2) := by decide +kernel
theorem dX4_status_34 : decode cX4_status 34 = .ok (.if_icmp .ge 18, 3) := by decide +kernel
theorem dX4_status_37 : decode cX4_status 37 = .ok (.iload_n 2, 1) := by decide +kernel
theorem dX4_status_38 : decode cX4_status 38 = .ok (.aload_n 0, 1) := by decide +kernel
theorem dX4_status_39 : decode cX4_status 39 = .ok (.getfield 49, 3) := by decide +kernel
theorem dX4_status_42 : decode cX4_status 42 = .ok (.iload_n 3, 1) := by decide +kernel
theorem dX4_status_43 : decode cX4_status 43 = .ok (.iaload, 1) := by decide +kernel
theorem dX4_status_44 : decode cX4_status 44 = .ok (.iadd, 1) := by decide +kernel
theorem dX4_status_45 : decode cX4_status 45 = .ok (.istore_n 2, 1) := by decide +kernel
theorem dX4_status_46 : decode cX4_status 46 = .ok (.iinc 3 1, 3) := by decide +kernel
theorem dX4_status_49 : decode cX4_status 49 = .ok (.goto (-18), 3) := by decide +kernel
theorem dX4_status_52 : decode cX4_status 52 = .ok (.iload_n 2, 1) := by decide +kernel
theorem dX4_status_53 : decode cX4_status 53 = .ok (.ireturn, 1) := by decide +kernel
theorem dX4_found_0 : decode cX4_found 0 = .ok (.aload_n 0, 1) := by decide +kernel
theorem dX4_found_1 : decode cX4_found 1 = .ok (.getfield 49, 3) := by decide +kernel
theorem dX4_found_4 : decode cX4_found 4 = .ok (.iload_n 1, 1) := by decide +kernel
theorem dX4_found_5 : decode cX4_found 5 = .ok (.dup2, 1) := by decide +kernel
theorem dX4_found_6 : decode cX4_found 6 = .ok (.iaload, 1) := by decide +kernel
theorem dX4_found_7 : decode cX4_found 7 = .ok (.iconst 1, 1) := by decide +kernel
theorem dX4_found_8 : decode cX4_found 8 = .ok (.iadd, 1) := by decide +kernel
theorem dX4_found_9 : decode cX4_found 9 = .ok (.iastore, 1) := by decide +kernel
theorem dX4_found_10 : decode cX4_found 10 = .ok (.ldc 235, 2) := by decide +kernel
theorem dX4_found_12 : decode cX4_found 12 = .ok (.iload_n 1, 1) := by decide +kernel
theorem dX4_found_13 : decode cX4_found 13 = .ok (.isub, 1) := by decide +kernel
theorem dX4_found_14 : decode cX4_found 14 = .ok (.ireturn, 1) := by decide +kernel
theorem dX4_dearestTrait_0 : decode cX4_dearestTrait 0 = .ok (.iconst 0, 1) := by decide +kernel
theorem dX4_dearestTrait_1 : decode cX4_dearestTrait 1 = .ok (.istore 4, 2) := by decide +kernel
theorem dX4_dearestTrait_3 : decode cX4_dearestTrait 3 = .ok (.iconst (-1), 1) := by decide +kernel
theorem dX4_dearestTrait_4 : decode cX4_dearestTrait 4 = .ok (.istore 5, 2) := by decide +kernel
theorem dX4_dearestTrait_6 : decode cX4_dearestTrait 6 = .ok (.iconst 0, 1) := by decide +kernel
theorem dX4_dearestTrait_7 : decode cX4_dearestTrait 7 = .ok (.istore 6, 2) := by decide +kernel
theorem dX4_dearestTrait_9 : decode cX4_dearestTrait 9 = .ok (.iload 6, 2) := by decide +kernel
theorem dX4_dearestTrait_11 : decode cX4_dearestTrait 11 = .ok (.iload_n 2, 1) := by decide +kernel
theorem dX4_dearestTrait_12 : decode cX4_dearestTrait 12 = .ok (.if_icmp .gt 64, 3) := by decide +kernel
theorem dX4_dearestTrait_15 : decode cX4_dearestTrait 15 = .ok (.aload_n 0, 1) := by decide +kernel
theorem dX4_dearestTrait_16 : decode cX4_dearestTrait 16 = .ok (.getfield 16, 3) := by decide +kernel
theorem dX4_dearestTrait_19 : decode cX4_dearestTrait 19 = .ok (.aload_n 0, 1) := by decide +kernel
theorem dX4_dearestTrait_20 : decode cX4_dearestTrait 20 = .ok (.getfield 10, 3) := by decide +kernel
theorem dX4_dearestTrait_23 : decode cX4_dearestTrait 23 = .ok (.invokevirtual 138, 3) := by decide +kernel
theorem dX4_dearestTrait_26 : decode cX4_dearestTrait 26 = .ok (.aload_n 0, 1) := by decide +kernel
theorem dX4_dearestTrait_27 : decode cX4_dearestTrait 27 = .ok (.getfield 16, 3) := by decide +kernel
theorem dX4_dearestTrait_30 : decode cX4_dearestTrait 30 = .ok (.getfield 87, 3) := by decide +kernel
theorem dX4_dearestTrait_33 : decode cX4_dearestTrait 33 = .ok (.iload_n 1, 1) := by decide +kernel
theorem dX4_dearestTrait_34 : decode cX4_dearestTrait 34 = .ok (.iload 6, 2) := by decide +kernel
theorem dX4_dearestTrait_36 : decode cX4_dearestTrait 36 = .ok (.iastore, 1) := by decide +kernel
theorem dX4_dearestTrait_37 : decode cX4_dearestTrait 37 = .ok (.aload_n 0, 1) := by decide +kernel
theorem dX4_dearestTrait_38 : decode cX4_dearestTrait 38 = .ok (.getfield 16, 3) := by decide +kernel
theorem dX4_dearestTrait_41 : decode cX4_dearestTrait 41 = .ok (.iload_n 3, 1) := by decide +kernel
theorem dX4_dearestTrait_42 : decode cX4_dearestTrait 42 = .ok (.invokevirtual 115, 3) := by decide +kernel
theorem dX4_dearestTrait_45 : decode cX4_dearestTrait 45 = .ok (.aload_n 0, 1) := by decide +kernel
theorem dX4_dearestTrait_46 : decode cX4_dearestTrait 46 = .ok (.getfield 16, 3) := by decide +kernel
theorem dX4_dearestTrait_49 : decode cX4_dearestTrait 49 = .ok (.getfield 119, 3) := by decide +kernel
theorem dX4_dearestTrait_52 : decode cX4_dearestTrait 52 = .ok (.iload 5, 2) := by decide +kernel
theorem dX4_dearestTrait_54 : decode cX4_dearestTrait 54 = .ok (.if_icmp .le 16, 3) := by decide +kernel
theorem dX4_dearestTrait_57 : decode cX4_dearestTrait 57 = .ok (.aload_n 0, 1) := by decide +kernel
theorem dX4_dearestTrait_58 : decode cX4_dearestTrait 58 = .ok (.getfield 16, 3) := by decide +kernel
theorem dX4_dearestTrait_61 : decode cX4_dearestTrait 61 = .ok (.getfield 119, 3) := by decide +kernel
theorem dX4_dearestTrait_64 : decode cX4_dearestTrait 64 = .ok (.istore 5, 2) := by decide +kernel
theorem dX4_dearestTrait_66 : decode cX4_dearestTrait 66 = .ok (.iload 6, 2) := by decide +kernel
theorem dX4_dearestTrait_68 : decode cX4_dearestTrait 68 = .ok (.istore 4, 2) := by decide +kernel
theorem dX4_dearestTrait_70 : decode cX4_dearestTrait 70 = .ok (.iinc 6 1, 3) := by decide +kernel
theorem dX4_dearestTrait_73 : decode cX4_dearestTrait 73 = .ok (.goto (-64), 3) := by decide +kernel
theorem dX4_dearestTrait_76 : decode cX4_dearestTrait 76 = .ok (.iload 4, 2) := by decide +kernel
theorem dX4_dearestTrait_78 : decode cX4_dearestTrait 78 = .ok (.ireturn, 1) := by decide +kernel
theorem dX4_keepsRound_0 : decode cX4_keepsRound 0 = .ok (.aload_n 0, 1) := by decide +kernel
theorem dX4_keepsRound_1 : decode cX4_keepsRound 1 = .ok (.getfield 16, 3) := by decide +kernel
theorem dX4_keepsRound_4 : decode cX4_keepsRound 4 = .ok (.aload_n 0, 1) := by decide +kernel
theorem dX4_keepsRound_5 : decode cX4_keepsRound 5 = .ok (.getfield 10, 3) := by decide +kernel
theorem dX4_keepsRound_8 : decode cX4_keepsRound 8 = .ok (.invokevirtual 138, 3) := by decide +kernel
theorem dX4_keepsRound_11 : decode cX4_keepsRound 11 = .ok (.aload_n 0, 1) := by decide +kernel
theorem dX4_keepsRound_12 : decode cX4_keepsRound 12 = .ok (.getfield 16, 3) := by decide +kernel
theorem dX4_keepsRound_15 : decode cX4_keepsRound 15 = .ok (.iload_n 1, 1) := by decide +kernel
theorem dX4_keepsRound_16 : decode cX4_keepsRound 16 = .ok (.invokevirtual 236, 3) := by decide +kernel
theorem dX4_keepsRound_19 : decode cX4_keepsRound 19 = .ok (.aload_n 0, 1) := by decide +kernel
theorem dX4_keepsRound_20 : decode cX4_keepsRound 20 = .ok (.getfield 16, 3) := by decide +kernel
theorem dX4_keepsRound_23 : decode cX4_keepsRound 23 = .ok (.iload_n 2, 1) := by decide +kernel
theorem dX4_keepsRound_24 : decode cX4_keepsRound 24 = .ok (.invokevirtual 115, 3) := by decide +kernel
theorem dX4_keepsRound_27 : decode cX4_keepsRound 27 = .ok (.aload_n 0, 1) := by decide +kernel
theorem dX4_keepsRound_28 : decode cX4_keepsRound 28 = .ok (.getfield 16, 3) := by decide +kernel
theorem dX4_keepsRound_31 : decode cX4_keepsRound 31 = .ok (.getfield 122, 3) := by decide +kernel
theorem dX4_keepsRound_34 : decode cX4_keepsRound 34 = .ok (.aload_n 0, 1) := by decide +kernel
theorem dX4_keepsRound_35 : decode cX4_keepsRound 35 = .ok (.getfield 10, 3) := by decide +kernel
theorem dX4_keepsRound_38 : decode cX4_keepsRound 38 = .ok (.getfield 122, 3) := by decide +kernel
theorem dX4_keepsRound_41 : decode cX4_keepsRound 41 = .ok (.if_icmp .ne 7, 3) := by decide +kernel
theorem dX4_keepsRound_44 : decode cX4_keepsRound 44 = .ok (.iconst 1, 1) := by decide +kernel
theorem dX4_keepsRound_45 : decode cX4_keepsRound 45 = .ok (.goto 4, 3) := by decide +kernel
theorem dX4_keepsRound_48 : decode cX4_keepsRound 48 = .ok (.iconst 0, 1) := by decide +kernel
theorem dX4_keepsRound_49 : decode cX4_keepsRound 49 = .ok (.ireturn, 1) := by decide +kernel
theorem dX4_trialRiftIsTold_0 : decode cX4_trialRiftIsTold 0 = .ok (.iconst 0, 1) := by decide +kernel
theorem dX4_trialRiftIsTold_1 : decode cX4_trialRiftIsTold 1 = .ok (.istore 4, 2) := by decide +kernel
theorem dX4_trialRiftIsTold_3 : decode cX4_trialRiftIsTold 3 = .ok (.iload 4, 2) := by decide +kernel
theorem dX4_trialRiftIsTold_5 : decode cX4_trialRiftIsTold 5 = .ok (.aload_n 0, 1) := by decide +kernel
theorem dX4_trialRiftIsTold_6 : decode cX4_trialRiftIsTold 6 = .ok (.getfield 45, 3) := by decide +kernel
theorem dX4_trialRiftIsTold_9 : decode cX4_trialRiftIsTold 9 = .ok (.getfield 208, 3) := by decide +kernel
theorem dX4_trialRiftIsTold_12 : decode cX4_trialRiftIsTold 12 = .ok (.iload_n 1, 1) := by decide +kernel
theorem dX4_trialRiftIsTold_13 : decode cX4_trialRiftIsTold 13 = .ok (.iaload, 1) := by decide +kernel
theorem dX4_trialRiftIsTold_14 : decode cX4_trialRiftIsTold 14 = .ok (.if_icmp .ge 56, 3) := by decide +kernel
theorem dX4_trialRiftIsTold_17 : decode cX4_trialRiftIsTold 17 = .ok (.iload 4, 2) := by decide +kernel
theorem dX4_trialRiftIsTold_19 : decode cX4_trialRiftIsTold 19 = .ok (.ifCond .le 11, 3) := by decide +kernel
theorem dX4_trialRiftIsTold_22 : decode cX4_trialRiftIsTold 22 = .ok (.aload_n 0, 1) := by decide +kernel
theorem dX4_trialRiftIsTold_23 : decode cX4_trialRiftIsTold 23 = .ok (.getfield 16, 3) := by decide +kernel
theorem dX4_trialRiftIsTold_26 : decode cX4_trialRiftIsTold 26 = .ok (.iconst 1, 1) := by decide +kernel
theorem dX4_trialRiftIsTold_27 : decode cX4_trialRiftIsTold 27 = .ok (.invokevirtual 115, 3) := by decide +kernel
theorem dX4_trialRiftIsTold_30 : decode cX4_trialRiftIsTold 30 = .ok (.aload_n 0, 1) := by decide +kernel
theorem dX4_trialRiftIsTold_31 : decode cX4_trialRiftIsTold 31 = .ok (.getfield 45, 3) := by decide +kernel
theorem dX4_trialRiftIsTold_34 : decode cX4_trialRiftIsTold 34 = .ok (.iload_n 1, 1) := by decide +kernel
theorem dX4_trialRiftIsTold_35 : decode cX4_trialRiftIsTold 35 = .ok (.iload 4, 2) := by decide +kernel
theorem dX4_trialRiftIsTold_37 : decode cX4_trialRiftIsTold 37 = .ok (.invokevirtual 229, 3) := by decide +kernel
theorem dX4_trialRiftIsTold_40 : decode cX4_trialRiftIsTold 40 = .ok (.istore 5, 2) := by decide +kernel
theorem dX4_trialRiftIsTold_42 : decode cX4_trialRiftIsTold 42 = .ok (.iload 5, 2) := by decide +kernel
theorem dX4_trialRiftIsTold_44 : decode cX4_trialRiftIsTold 44 = .ok (.iconst (-1), 1) := by decide +kernel
theorem dX4_trialRiftIsTold_45 : decode cX4_trialRiftIsTold 45 = .ok (.if_icmp .eq 19, 3) := by decide +kernel
theorem dX4_trialRiftIsTold_48 : decode cX4_trialRiftIsTold 48 = .ok (.iload 5, 2) := by decide +kernel
theorem dX4_trialRiftIsTold_50 : decode cX4_trialRiftIsTold 50 = .ok (.aload_n 0, 1) := by decide +kernel
theorem dX4_trialRiftIsTold_51 : decode cX4_trialRiftIsTold 51 = .ok (.getfield 16, 3) := by decide +kernel
theorem dX4_trialRiftIsTold_54 : decode cX4_trialRiftIsTold 54 = .ok (.iload_n 2, 1) := by decide +kernel
theorem dX4_trialRiftIsTold_55 : decode cX4_trialRiftIsTold 55 = .ok (.iload_n 3, 1) := by decide +kernel
theorem dX4_trialRiftIsTold_56 : decode cX4_trialRiftIsTold 56 = .ok (.invokevirtual 94, 3) := by decide +kernel
theorem dX4_trialRiftIsTold_59 : decode cX4_trialRiftIsTold 59 = .ok (.if_icmp .eq 5, 3) := by decide +kernel
theorem dX4_trialRiftIsTold_62 : decode cX4_trialRiftIsTold 62 = .ok (.iconst 0, 1) := by decide +kernel
theorem dX4_trialRiftIsTold_63 : decode cX4_trialRiftIsTold 63 = .ok (.ireturn, 1) := by decide +kernel
theorem dX4_trialRiftIsTold_64 : decode cX4_trialRiftIsTold 64 = .ok (.iinc 4 1, 3) := by decide +kernel
theorem dX4_trialRiftIsTold_67 : decode cX4_trialRiftIsTold 67 = .ok (.goto (-64), 3) := by decide +kernel
theorem dX4_trialRiftIsTold_70 : decode cX4_trialRiftIsTold 70 = .ok (.iconst 1, 1) := by decide +kernel
theorem dX4_trialRiftIsTold_71 : decode cX4_trialRiftIsTold 71 = .ok (.ireturn, 1) := by decide +kernel
theorem dX4_trialHeatIsTold_0 : decode cX4_trialHeatIsTold 0 = .ok (.iconst 0, 1) := by decide +kernel
theorem dX4_trialHeatIsTold_1 : decode cX4_trialHeatIsTold 1 = .ok (.istore_n 3, 1) := by decide +kernel
theorem dX4_trialHeatIsTold_2 : decode cX4_trialHeatIsTold 2 = .ok (.iload_n 3, 1) := by decide +kernel
theorem dX4_trialHeatIsTold_3 : decode cX4_trialHeatIsTold 3 = .ok (.aload_n 0, 1) := by decide +kernel
theorem dX4_trialHeatIsTold_4 : decode cX4_trialHeatIsTold 4 = .ok (.getfield 45, 3) := by decide +kernel
theorem dX4_trialHeatIsTold_7 : decode cX4_trialHeatIsTold 7 = .ok (.getfield 208, 3) := by decide +kernel
theorem dX4_trialHeatIsTold_10 : decode cX4_trialHeatIsTold 10 = .ok (.iload_n 1, 1) := by decide +kernel
theorem dX4_trialHeatIsTold_11 : decode cX4_trialHeatIsTold 11 = .ok (.iaload, 1) := by decide +kernel
theorem dX4_trialHeatIsTold_12 : decode cX4_trialHeatIsTold 12 = .ok (.if_icmp .ge 57, 3) := by decide +kernel
theorem dX4_trialHeatIsTold_15 : decode cX4_trialHeatIsTold 15 = .ok (.iload_n 3, 1) := by decide +kernel
theorem dX4_trialHeatIsTold_16 : decode cX4_trialHeatIsTold 16 = .ok (.ifCond .le 11, 3) := by decide +kernel
theorem dX4_trialHeatIsTold_19 : decode cX4_trialHeatIsTold 19 = .ok (.aload_n 0, 1) := by decide +kernel
theorem dX4_trialHeatIsTold_20 : decode cX4_trialHeatIsTold 20 = .ok (.getfield 16, 3) := by decide +kernel
theorem dX4_trialHeatIsTold_23 : decode cX4_trialHeatIsTold 23 = .ok (.iconst 1, 1) := by decide +kernel
theorem dX4_trialHeatIsTold_24 : decode cX4_trialHeatIsTold 24 = .ok (.invokevirtual 115, 3) := by decide +kernel
theorem dX4_trialHeatIsTold_27 : decode cX4_trialHeatIsTold 27 = .ok (.aload_n 0, 1) := by decide +kernel
theorem dX4_trialHeatIsTold_28 : decode cX4_trialHeatIsTold 28 = .ok (.getfield 45, 3) := by decide +kernel
theorem dX4_trialHeatIsTold_31 : decode cX4_trialHeatIsTold 31 = .ok (.iload_n 1, 1) := by decide +kernel
theorem dX4_trialHeatIsTold_32 : decode cX4_trialHeatIsTold 32 = .ok (.iload_n 3, 1) := by decide +kernel
theorem dX4_trialHeatIsTold_33 : decode cX4_trialHeatIsTold 33 = .ok (.invokevirtual 229, 3) := by decide +kernel
theorem dX4_trialHeatIsTold_36 : decode cX4_trialHeatIsTold 36 = .ok (.istore 4, 2) := by decide +kernel
theorem dX4_trialHeatIsTold_38 : decode cX4_trialHeatIsTold 38 = .ok (.iload 4, 2) := by decide +kernel
theorem dX4_trialHeatIsTold_40 : decode cX4_trialHeatIsTold 40 = .ok (.iconst (-1), 1) := by decide +kernel
theorem dX4_trialHeatIsTold_41 : decode cX4_trialHeatIsTold 41 = .ok (.if_icmp .eq 22, 3) := by decide +kernel
theorem dX4_trialHeatIsTold_44 : decode cX4_trialHeatIsTold 44 = .ok (.iload 4, 2) := by decide +kernel
theorem dX4_trialHeatIsTold_46 : decode cX4_trialHeatIsTold 46 = .ok (.aload_n 0, 1) := by decide +kernel
theorem dX4_trialHeatIsTold_47 : decode cX4_trialHeatIsTold 47 = .ok (.getfield 16, 3) := by decide +kernel
theorem dX4_trialHeatIsTold_50 : decode cX4_trialHeatIsTold 50 = .ok (.getfield 87, 3) := by decide +kernel
theorem dX4_trialHeatIsTold_53 : decode cX4_trialHeatIsTold 53 = .ok (.bipush 8, 2) := by decide +kernel
theorem dX4_trialHeatIsTold_55 : decode cX4_trialHeatIsTold 55 = .ok (.iload_n 2, 1) := by decide +kernel
theorem dX4_trialHeatIsTold_56 : decode cX4_trialHeatIsTold 56 = .ok (.iadd, 1) := by decide +kernel
theorem dX4_trialHeatIsTold_57 : decode cX4_trialHeatIsTold 57 = .ok (.iaload, 1) := by decide +kernel
theorem dX4_trialHeatIsTold_58 : decode cX4_trialHeatIsTold 58 = .ok (.if_icmp .eq 5, 3) := by decide +kernel
theorem dX4_trialHeatIsTold_61 : decode cX4_trialHeatIsTold 61 = .ok (.iconst 0, 1) := by decide +kernel
theorem dX4_trialHeatIsTold_62 : decode cX4_trialHeatIsTold 62 = .ok (.ireturn, 1) := by decide +kernel
theorem dX4_trialHeatIsTold_63 : decode cX4_trialHeatIsTold 63 = .ok (.iinc 3 1, 3) := by decide +kernel
theorem dX4_trialHeatIsTold_66 : decode cX4_trialHeatIsTold 66 = .ok (.goto (-64), 3) := by decide +kernel
theorem dX4_trialHeatIsTold_69 : decode cX4_trialHeatIsTold 69 = .ok (.iconst 1, 1) := by decide +kernel
theorem dX4_trialHeatIsTold_70 : decode cX4_trialHeatIsTold 70 = .ok (.ireturn, 1) := by decide +kernel
theorem dX4_within_0 : decode cX4_within 0 = .ok (.iload_n 0, 1) := by decide +kernel
theorem dX4_within_1 : decode cX4_within 1 = .ok (.iload_n 1, 1) := by decide +kernel
theorem dX4_within_2 : decode cX4_within 2 = .ok (.if_icmp .lt 12, 3) := by decide +kernel
theorem dX4_within_5 : decode cX4_within 5 = .ok (.iload_n 0, 1) := by decide +kernel
theorem dX4_within_6 : decode cX4_within 6 = .ok (.iload_n 2, 1) := by decide +kernel
theorem dX4_within_7 : decode cX4_within 7 = .ok (.if_icmp .gt 7, 3) := by decide +kernel
theorem dX4_within_10 : decode cX4_within 10 = .ok (.iconst 1, 1) := by decide +kernel
theorem dX4_within_11 : decode cX4_within 11 = .ok (.goto 4, 3) := by decide +kernel
theorem dX4_within_14 : decode cX4_within 14 = .ok (.iconst 0, 1) := by decide +kernel
theorem dX4_within_15 : decode cX4_within 15 = .ok (.ireturn, 1) := by decide +kernel
theorem dX4_wouldFlop_0 : decode cX4_wouldFlop 0 = .ok (.iload_n 0, 1) := by decide +kernel
theorem dX4_wouldFlop_1 : decode cX4_wouldFlop 1 = .ok (.ifCond .eq 11, 3) := by decide +kernel
theorem dX4_wouldFlop_4 : decode cX4_wouldFlop 4 = .ok (.iload_n 1, 1) := by decide +kernel
theorem dX4_wouldFlop_5 : decode cX4_wouldFlop 5 = .ok (.invokestatic 239, 3) := by decide +kernel
theorem dX4_wouldFlop_8 : decode cX4_wouldFlop 8 = .ok (.iload_n 0, 1) := by decide +kernel
theorem dX4_wouldFlop_9 : decode cX4_wouldFlop 9 = .ok (.if_icmp .le 7, 3) := by decide +kernel
theorem dX4_wouldFlop_12 : decode cX4_wouldFlop 12 = .ok (.iconst 1, 1) := by decide +kernel
theorem dX4_wouldFlop_13 : decode cX4_wouldFlop 13 = .ok (.goto 4, 3) := by decide +kernel
theorem dX4_wouldFlop_16 : decode cX4_wouldFlop 16 = .ok (.iconst 0, 1) := by decide +kernel
theorem dX4_wouldFlop_17 : decode cX4_wouldFlop 17 = .ok (.ireturn, 1) := by decide +kernel
theorem dX4_isOrIsUnder_0 : decode cX4_isOrIsUnder 0 = .ok (.iload_n 0, 1) := by decide +kernel
theorem dX4_isOrIsUnder_1 : decode cX4_isOrIsUnder 1 = .ok (.istore_n 2, 1) := by decide +kernel
theorem dX4_isOrIsUnder_2 : decode cX4_isOrIsUnder 2 = .ok (.iconst 0, 1) := by decide +kernel
theorem dX4_isOrIsUnder_3 : decode cX4_isOrIsUnder 3 = .ok (.istore_n 3, 1) := by decide +kernel
theorem dX4_isOrIsUnder_4 : decode cX4_isOrIsUnder 4 = .ok (.iload_n 3, 1) := by decide +kernel
theorem dX4_isOrIsUnder_5 : decode cX4_isOrIsUnder 5 = .ok (.bipush 6, 2) := by decide +kernel
theorem dX4_isOrIsUnder_7 : decode cX4_isOrIsUnder 7 = .ok (.if_icmp .gt 26, 3) := by decide +kernel
theorem dX4_isOrIsUnder_10 : decode cX4_isOrIsUnder 10 = .ok (.iload_n 2, 1) := by decide +kernel
theorem dX4_isOrIsUnder_11 : decode cX4_isOrIsUnder 11 = .ok (.ifCond .lt 22, 3) := by decide +kernel
theorem dX4_isOrIsUnder_14 : decode cX4_isOrIsUnder 14 = .ok (.iload_n 2, 1) := by decide +kernel
theorem dX4_isOrIsUnder_15 : decode cX4_isOrIsUnder 15 = .ok (.iload_n 1, 1) := by decide +kernel
theorem dX4_isOrIsUnder_16 : decode cX4_isOrIsUnder 16 = .ok (.if_icmp .ne 5, 3) := by decide +kernel
theorem dX4_isOrIsUnder_19 : decode cX4_isOrIsUnder 19 = .ok (.iconst 1, 1) := by decide +kernel
theorem dX4_isOrIsUnder_20 : decode cX4_isOrIsUnder 20 = .ok (.ireturn, 1) := by decide +kernel
theorem dX4_isOrIsUnder_21 : decode cX4_isOrIsUnder 21 = .ok (.getstatic 242, 3) := by decide +kernel
theorem dX4_isOrIsUnder_24 : decode cX4_isOrIsUnder 24 = .ok (.iload_n 2, 1) := by decide +kernel
theorem dX4_isOrIsUnder_25 : decode cX4_isOrIsUnder 25 = .ok (.iaload, 1) := by decide +kernel
theorem dX4_isOrIsUnder_26 : decode cX4_isOrIsUnder 26 = .ok (.istore_n 2, 1) := by decide +kernel
theorem dX4_isOrIsUnder_27 : decode cX4_isOrIsUnder 27 = .ok (.iinc 3 1, 3) := by decide +kernel
theorem dX4_isOrIsUnder_30 : decode cX4_isOrIsUnder 30 = .ok (.goto (-26), 3) := by decide +kernel
theorem dX4_isOrIsUnder_33 : decode cX4_isOrIsUnder 33 = .ok (.iconst 0, 1) := by decide +kernel
theorem dX4_isOrIsUnder_34 : decode cX4_isOrIsUnder 34 = .ok (.ireturn, 1) := by decide +kernel
theorem dX4_commonDivisor_0 : decode cX4_commonDivisor 0 = .ok (.iload_n 0, 1) := by decide +kernel
theorem dX4_commonDivisor_1 : decode cX4_commonDivisor 1 = .ok (.iload_n 1, 1) := by decide +kernel
theorem dX4_commonDivisor_2 : decode cX4_commonDivisor 2 = .ok (.invokestatic 245, 3) := by decide +kernel
theorem dX4_commonDivisor_5 : decode cX4_commonDivisor 5 = .ok (.istore_n 2, 1) := by decide +kernel
theorem dX4_commonDivisor_6 : decode cX4_commonDivisor 6 = .ok (.iload_n 2, 1) := by decide +kernel
theorem dX4_commonDivisor_7 : decode cX4_commonDivisor 7 = .ok (.iconst 1, 1) := by decide +kernel
theorem dX4_commonDivisor_8 : decode cX4_commonDivisor 8 = .ok (.if_icmp .le 23, 3) := by decide +kernel
theorem dX4_commonDivisor_11 : decode cX4_commonDivisor 11 = .ok (.iload_n 0, 1) := by decide +kernel
theorem dX4_commonDivisor_12 : decode cX4_commonDivisor 12 = .ok (.iload_n 2, 1) := by decide +kernel
theorem dX4_commonDivisor_13 : decode cX4_commonDivisor 13 = .ok (.irem, 1) := by decide +kernel
theorem dX4_commonDivisor_14 : decode cX4_commonDivisor 14 = .ok (.ifCond .ne 11, 3) := by decide +kernel
theorem dX4_commonDivisor_17 : decode cX4_commonDivisor 17 = .ok (.iload_n 1, 1) := by decide +kernel
theorem dX4_commonDivisor_18 : decode cX4_commonDivisor 18 = .ok (.iload_n 2, 1) := by decide +kernel
theorem dX4_commonDivisor_19 : decode cX4_commonDivisor 19 = .ok (.irem, 1) := by decide +kernel
theorem dX4_commonDivisor_20 : decode cX4_commonDivisor 20 = .ok (.ifCond .ne 5, 3) := by decide +kernel
theorem dX4_commonDivisor_23 : decode cX4_commonDivisor 23 = .ok (.iload_n 2, 1) := by decide +kernel
theorem dX4_commonDivisor_24 : decode cX4_commonDivisor 24 = .ok (.ireturn, 1) := by decide +kernel
theorem dX4_commonDivisor_25 : decode cX4_commonDivisor 25 = .ok (.iinc 2 (-1), 3) := by decide +kernel
theorem dX4_commonDivisor_28 : decode cX4_commonDivisor 28 = .ok (.goto (-22), 3) := by decide +kernel
theorem dX4_commonDivisor_31 : decode cX4_commonDivisor 31 = .ok (.iconst 1, 1) := by decide +kernel
theorem dX4_commonDivisor_32 : decode cX4_commonDivisor 32 = .ok (.ireturn, 1) := by decide +kernel
theorem dX4_power_0 : decode cX4_power 0 = .ok (.lconst 1, 1) := by decide +kernel
theorem dX4_power_1 : decode cX4_power 1 = .ok (.lstore_n 2, 1) := by decide +kernel
theorem dX4_power_2 : decode cX4_power 2 = .ok (.iconst 0, 1) := by decide +kernel
theorem dX4_power_3 : decode cX4_power 3 = .ok (.istore 4, 2) := by decide +kernel
theorem dX4_power_5 : decode cX4_power 5 = .ok (.iload 4, 2) := by decide +kernel
theorem dX4_power_7 : decode cX4_power 7 = .ok (.iload_n 1, 1) := by decide +kernel
theorem dX4_power_8 : decode cX4_power 8 = .ok (.if_icmp .ge 14, 3) := by decide +kernel
theorem dX4_power_11 : decode cX4_power 11 = .ok (.lload_n 2, 1) := by decide +kernel
theorem dX4_power_12 : decode cX4_power 12 = .ok (.iload_n 0, 1) := by decide +kernel
theorem dX4_power_13 : decode cX4_power 13 = .ok (.i2l, 1) := by decide +kernel
theorem dX4_power_14 : decode cX4_power 14 = .ok (.lmul, 1) := by decide +kernel
theorem dX4_power_15 : decode cX4_power 15 = .ok (.lstore_n 2, 1) := by decide +kernel
theorem dX4_power_16 : decode cX4_power 16 = .ok (.iinc 4 1, 3) := by decide +kernel
theorem dX4_power_19 : decode cX4_power 19 = .ok (.goto (-14), 3) := by decide +kernel
theorem dX4_power_22 : decode cX4_power 22 = .ok (.lload_n 2, 1) := by decide +kernel
theorem dX4_power_23 : decode cX4_power 23 = .ok (.lreturn, 1) := by decide +kernel
