theorem dX0_init_0 : decode cX0_init 0 = .ok (.aload_n 0, 1) := by decide +kernel
theorem dX0_init_1 : decode cX0_init 1 = .ok (.invokespecial 3, 3) := by decide +kernel
theorem dX0_init_4 : decode cX0_init 4 = .ok (.aload_n 0, 1) := by decide +kernel
theorem dX0_init_5 : decode cX0_init 5 = .ok (.bipush 10, 2) := by decide +kernel
theorem dX0_init_7 : decode cX0_init 7 = .ok (.putfield 9, 3) := by decide +kernel
theorem dX0_init_10 : decode cX0_init 10 = .ok (.aload_n 0, 1) := by decide +kernel
theorem dX0_init_11 : decode cX0_init 11 = .ok (.iconst 1, 1) := by decide +kernel
theorem dX0_init_12 : decode cX0_init 12 = .ok (.putfield 15, 3) := by decide +kernel
theorem dX0_init_15 : decode cX0_init 15 = .ok (.aload_n 0, 1) := by decide +kernel
theorem dX0_init_16 : decode cX0_init 16 = .ok (.bipush 6, 2) := by decide +kernel
theorem dX0_init_18 : decode cX0_init 18 = .ok (.newarray .int, 2) := by decide +kernel
theorem dX0_init_20 : decode cX0_init 20 = .ok (.putfield 18, 3) := by decide +kernel
theorem dX0_init_23 : decode cX0_init 23 = .ok (.aload_n 0, 1) := by decide +kernel
theorem dX0_init_24 : decode cX0_init 24 = .ok (.bipush 48, 2) := by decide +kernel
theorem dX0_init_26 : decode cX0_init 26 = .ok (.newarray .int, 2) := by decide +kernel
theorem dX0_init_28 : decode cX0_init 28 = .ok (.putfield 22, 3) := by decide +kernel
theorem dX0_init_31 : decode cX0_init 31 = .ok (.aload_n 0, 1) := by decide +kernel
theorem dX0_init_32 : decode cX0_init 32 = .ok (.bipush 64, 2) := by decide +kernel
theorem dX0_init_34 : decode cX0_init 34 = .ok (.newarray .int, 2) := by decide +kernel
theorem dX0_init_36 : decode cX0_init 36 = .ok (.putfield 25, 3) := by decide +kernel
theorem dX0_init_39 : decode cX0_init 39 = .ok (.aload_n 0, 1) := by decide +kernel
theorem dX0_init_40 : decode cX0_init 40 = .ok (.bipush 10, 2) := by decide +kernel
theorem dX0_init_42 : decode cX0_init 42 = .ok (.newarray .int, 2) := by decide +kernel
theorem dX0_init_44 : decode cX0_init 44 = .ok (.putfield 28, 3) := by decide +kernel
theorem dX0_init_47 : decode cX0_init 47 = .ok (.aload_n 0, 1) := by decide +kernel
theorem dX0_init_48 : decode cX0_init 48 = .ok (.getfield 18, 3) := by decide +kernel
theorem dX0_init_51 : decode cX0_init 51 = .ok (.iconst 1, 1) := by decide +kernel
theorem dX0_init_52 : decode cX0_init 52 = .ok (.invokestatic 31, 3) := by decide +kernel
theorem dX0_init_55 : decode cX0_init 55 = .ok (.aload_n 0, 1) := by decide +kernel
theorem dX0_init_56 : decode cX0_init 56 = .ok (.getfield 25, 3) := by decide +kernel
theorem dX0_init_59 : decode cX0_init 59 = .ok (.bipush 20, 2) := by decide +kernel
theorem dX0_init_61 : decode cX0_init 61 = .ok (.invokestatic 31, 3) := by decide +kernel
theorem dX0_init_64 : decode cX0_init 64 = .ok (.aload_n 0, 1) := by decide +kernel
theorem dX0_init_65 : decode cX0_init 65 = .ok (.getfield 28, 3) := by decide +kernel
theorem dX0_init_68 : decode cX0_init 68 = .ok (.iconst (-1), 1) := by decide +kernel
theorem dX0_init_69 : decode cX0_init 69 = .ok (.invokestatic 31, 3) := by decide +kernel
theorem dX0_init_72 : decode cX0_init 72 = .ok (.return_, 1) := by decide +kernel
theorem dX0_become_0 : decode cX0_become 0 = .ok (.aload_n 0, 1) := by decide +kernel
theorem dX0_become_1 : decode cX0_become 1 = .ok (.aload_n 1, 1) := by decide +kernel
theorem dX0_become_2 : decode cX0_become 2 = .ok (.getfield 9, 3) := by decide +kernel
theorem dX0_become_5 : decode cX0_become 5 = .ok (.putfield 9, 3) := by decide +kernel
theorem dX0_become_8 : decode cX0_become 8 = .ok (.aload_n 0, 1) := by decide +kernel
theorem dX0_become_9 : decode cX0_become 9 = .ok (.aload_n 1, 1) := by decide +kernel
theorem dX0_become_10 : decode cX0_become 10 = .ok (.getfield 37, 3) := by decide +kernel
theorem dX0_become_13 : decode cX0_become 13 = .ok (.putfield 37, 3) := by decide +kernel
theorem dX0_become_16 : decode cX0_become 16 = .ok (.aload_n 0, 1) := by decide +kernel
theorem dX0_become_17 : decode cX0_become 17 = .ok (.aload_n 1, 1) := by decide +kernel
theorem dX0_become_18 : decode cX0_become 18 = .ok (.getfield 40, 3) := by decide +kernel
theorem dX0_become_21 : decode cX0_become 21 = .ok (.putfield 40, 3) := by decide +kernel
theorem dX0_become_24 : decode cX0_become 24 = .ok (.aload_n 0, 1) := by decide +kernel
theorem dX0_become_25 : decode cX0_become 25 = .ok (.aload_n 1, 1) := by decide +kernel
theorem dX0_become_26 : decode cX0_become 26 = .ok (.getfield 43, 3) := by decide +kernel
theorem dX0_become_29 : decode cX0_become 29 = .ok (.putfield 43, 3) := by decide +kernel
theorem dX0_become_32 : decode cX0_become 32 = .ok (.aload_n 0, 1) := by decide +kernel
theorem dX0_become_33 : decode cX0_become 33 = .ok (.aload_n 1, 1) := by decide +kernel
theorem dX0_become_34 : decode cX0_become 34 = .ok (.getfield 46, 3) := by decide +kernel
theorem dX0_become_37 : decode cX0_become 37 = .ok (.putfield 46, 3) := by decide +kernel
theorem dX0_become_40 : decode cX0_become 40 = .ok (.aload_n 0, 1) := by decide +kernel
theorem dX0_become_41 : decode cX0_become 41 = .ok (.aload_n 1, 1) := by decide +kernel
theorem dX0_become_42 : decode cX0_become 42 = .ok (.getfield 15, 3) := by decide +kernel
theorem dX0_become_45 : decode cX0_become 45 = .ok (.putfield 15, 3) := by decide +kernel
theorem dX0_become_48 : decode cX0_become 48 = .ok (.aload_n 0, 1) := by decide +kernel
theorem dX0_become_49 : decode cX0_become 49 = .ok (.aload_n 1, 1) := by decide +kernel
theorem dX0_become_50 : decode cX0_become 50 = .ok (.getfield 49, 3) := by decide +kernel
theorem dX0_become_53 : decode cX0_become 53 = .ok (.putfield 49, 3) := by decide +kernel
theorem dX0_become_56 : decode cX0_become 56 = .ok (.aload_n 1, 1) := by decide +kernel
theorem dX0_become_57 : decode cX0_become 57 = .ok (.getfield 18, 3) := by decide +kernel
theorem dX0_become_60 : decode cX0_become 60 = .ok (.iconst 0, 1) := by decide +kernel
theorem dX0_become_61 : decode cX0_become 61 = .ok (.aload_n 0, 1) := by decide +kernel
theorem dX0_become_62 : decode cX0_become 62 = .ok (.getfield 18, 3) := by decide +kernel
theorem dX0_become_65 : decode cX0_become 65 = .ok (.iconst 0, 1) := by decide +kernel
theorem dX0_become_66 : decode cX0_become 66 = .ok (.bipush 6, 2) := by decide +kernel
theorem dX0_become_68 : decode cX0_become 68 = .ok (.invokestatic 52, 3) := by decide +kernel
theorem dX0_become_71 : decode cX0_become 71 = .ok (.aload_n 1, 1) := by decide +kernel
theorem dX0_become_72 : decode cX0_become 72 = .ok (.getfield 22, 3) := by decide +kernel
theorem dX0_become_75 : decode cX0_become 75 = .ok (.iconst 0, 1) := by decide +kernel
theorem dX0_become_76 : decode cX0_become 76 = .ok (.aload_n 0, 1) := by decide +kernel
theorem dX0_become_77 : decode cX0_become 77 = .ok (.getfield 22, 3) := by decide +kernel
theorem dX0_become_80 : decode cX0_become 80 = .ok (.iconst 0, 1) := by decide +kernel
theorem dX0_become_81 : decode cX0_become 81 = .ok (.bipush 48, 2) := by decide +kernel
theorem dX0_become_83 : decode cX0_become 83 = .ok (.invokestatic 52, 3) := by decide +kernel
theorem dX0_become_86 : decode cX0_become 86 = .ok (.aload_n 1, 1) := by decide +kernel
theorem dX0_become_87 : decode cX0_become 87 = .ok (.getfield 25, 3) := by decide +kernel
theorem dX0_become_90 : decode cX0_become 90 = .ok (.iconst 0, 1) := by decide +kernel
theorem dX0_become_91 : decode cX0_become 91 = .ok (.aload_n 0, 1) := by decide +kernel
theorem dX0_become_92 : decode cX0_become 92 = .ok (.getfield 25, 3) := by decide +kernel
theorem dX0_become_95 : decode cX0_become 95 = .ok (.iconst 0, 1) := by decide +kernel
theorem dX0_become_96 : decode cX0_become 96 = .ok (.bipush 64, 2) := by decide +kernel
theorem dX0_become_98 : decode cX0_become 98 = .ok (.invokestatic 52, 3) := by decide +kernel
theorem dX0_become_101 : decode cX0_become 101 = .ok (.aload_n 1, 1) := by decide +kernel
theorem dX0_become_102 : decode cX0_become 102 = .ok (.getfield 28, 3) := by decide +kernel
theorem dX0_become_105 : decode cX0_become 105 = .ok (.iconst 0, 1) := by decide +kernel
theorem dX0_become_106 : decode cX0_become 106 = .ok (.aload_n 0, 1) := by decide +kernel
theorem dX0_become_107 : decode cX0_become 107 = .ok (.getfield 28, 3) := by decide +kernel
theorem dX0_become_110 : decode cX0_become 110 = .ok (.iconst 0, 1) := by decide +kernel
theorem dX0_become_111 : decode cX0_become 111 = .ok (.bipush 10, 2) := by decide +kernel
theorem dX0_become_113 : decode cX0_become 113 = .ok (.invokestatic 52, 3) := by decide +kernel
theorem dX0_become_116 : decode cX0_become 116 = .ok (.return_, 1) := by decide +kernel
theorem dX0_isFull_0 : decode cX0_isFull 0 = .ok (.aload_n 0, 1) := by decide +kernel
theorem dX0_isFull_1 : decode cX0_isFull 1 = .ok (.getfield 49, 3) := by decide +kernel
theorem dX0_isFull_4 : decode cX0_isFull 4 = .ok (.bipush 8, 2) := by decide +kernel
theorem dX0_isFull_6 : decode cX0_isFull 6 = .ok (.if_icmp .lt 7, 3) := by decide +kernel
theorem dX0_isFull_9 : decode cX0_isFull 9 = .ok (.iconst 1, 1) := by decide +kernel
theorem dX0_isFull_10 : decode cX0_isFull 10 = .ok (.goto 4, 3) := by decide +kernel
theorem dX0_isFull_13 : decode cX0_isFull 13 = .ok (.iconst 0, 1) := by decide +kernel
theorem dX0_isFull_14 : decode cX0_isFull 14 = .ok (.ireturn, 1) := by decide +kernel
theorem dX0_has_0 : decode cX0_has 0 = .ok (.iload_n 1, 1) := by decide +kernel
theorem dX0_has_1 : decode cX0_has 1 = .ok (.ifCond .lt 15, 3) := by decide +kernel
theorem dX0_has_4 : decode cX0_has 4 = .ok (.iload_n 1, 1) := by decide +kernel
theorem dX0_has_5 : decode cX0_has 5 = .ok (.aload_n 0, 1) := by decide +kernel
theorem dX0_has_6 : decode cX0_has 6 = .ok (.getfield 49, 3) := by decide +kernel
theorem dX0_has_9 : decode cX0_has 9 = .ok (.if_icmp .ge 7, 3) := by decide +kernel
theorem dX0_has_12 : decode cX0_has 12 = .ok (.iconst 1, 1) := by decide +kernel
theorem dX0_has_13 : decode cX0_has 13 = .ok (.goto 4, 3) := by decide +kernel
theorem dX0_has_16 : decode cX0_has 16 = .ok (.iconst 0, 1) := by decide +kernel
theorem dX0_has_17 : decode cX0_has 17 = .ok (.ireturn, 1) := by decide +kernel
theorem dX0_hasTwo_0 : decode cX0_hasTwo 0 = .ok (.aload_n 0, 1) := by decide +kernel
theorem dX0_hasTwo_1 : decode cX0_hasTwo 1 = .ok (.iload_n 1, 1) := by decide +kernel
theorem dX0_hasTwo_2 : decode cX0_hasTwo 2 = .ok (.invokevirtual 58, 3) := by decide +kernel
theorem dX0_hasTwo_5 : decode cX0_hasTwo 5 = .ok (.ifCond .eq 20, 3) := by decide +kernel
theorem dX0_hasTwo_8 : decode cX0_hasTwo 8 = .ok (.aload_n 0, 1) := by decide +kernel
theorem dX0_hasTwo_9 : decode cX0_hasTwo 9 = .ok (.iload_n 2, 1) := by decide +kernel
theorem dX0_hasTwo_10 : decode cX0_hasTwo 10 = .ok (.invokevirtual 58, 3) := by decide +kernel
theorem dX0_hasTwo_13 : decode cX0_hasTwo 13 = .ok (.ifCond .eq 12, 3) := by decide +kernel
theorem dX0_hasTwo_16 : decode cX0_hasTwo 16 = .ok (.iload_n 1, 1) := by decide +kernel
theorem dX0_hasTwo_17 : decode cX0_hasTwo 17 = .ok (.iload_n 2, 1) := by decide +kernel
theorem dX0_hasTwo_18 : decode cX0_hasTwo 18 = .ok (.if_icmp .eq 7, 3) := by decide +kernel
theorem dX0_hasTwo_21 : decode cX0_hasTwo 21 = .ok (.iconst 1, 1) := by decide +kernel
theorem dX0_hasTwo_22 : decode cX0_hasTwo 22 = .ok (.goto 4, 3) := by decide +kernel
theorem dX0_hasTwo_25 : decode cX0_hasTwo 25 = .ok (.iconst 0, 1) := by decide +kernel
theorem dX0_hasTwo_26 : decode cX0_hasTwo 26 = .ok (.ireturn, 1) := by decide +kernel
theorem dX0_addPotter_0 : decode cX0_addPotter 0 = .ok (.aload_n 0, 1) := by decide +kernel
theorem dX0_addPotter_1 : decode cX0_addPotter 1 = .ok (.getfield 49, 3) := by decide +kernel
theorem dX0_addPotter_4 : decode cX0_addPotter 4 = .ok (.istore 5, 2) := by decide +kernel
theorem dX0_addPotter_6 : decode cX0_addPotter 6 = .ok (.aload_n 0, 1) := by decide +kernel
theorem dX0_addPotter_7 : decode cX0_addPotter 7 = .ok (.getfield 22, 3) := by decide +kernel
theorem dX0_addPotter_10 : decode cX0_addPotter 10 = .ok (.iconst 0, 1) := by decide +kernel
theorem dX0_addPotter_11 : decode cX0_addPotter 11 = .ok (.iload 5, 2) := by decide +kernel
theorem dX0_addPotter_13 : decode cX0_addPotter 13 = .ok (.iadd, 1) := by decide +kernel
theorem dX0_addPotter_14 : decode cX0_addPotter 14 = .ok (.iload_n 1, 1) := by decide +kernel
theorem dX0_addPotter_15 : decode cX0_addPotter 15 = .ok (.iastore, 1) := by decide +kernel
theorem dX0_addPotter_16 : decode cX0_addPotter 16 = .ok (.aload_n 0, 1) := by decide +kernel
theorem dX0_addPotter_17 : decode cX0_addPotter 17 = .ok (.getfield 22, 3) := by decide +kernel
theorem dX0_addPotter_20 : decode cX0_addPotter 20 = .ok (.bipush 8, 2) := by decide +kernel
theorem dX0_addPotter_22 : decode cX0_addPotter 22 = .ok (.iload 5, 2) := by decide +kernel
theorem dX0_addPotter_24 : decode cX0_addPotter 24 = .ok (.iadd, 1) := by decide +kernel
theorem dX0_addPotter_25 : decode cX0_addPotter 25 = .ok (.iload_n 2, 1) := by decide +kernel
theorem dX0_addPotter_26 : decode cX0_addPotter 26 = .ok (.iastore, 1) := by decide +kernel
theorem dX0_addPotter_27 : decode cX0_addPotter 27 = .ok (.aload_n 0, 1) := by decide +kernel
theorem dX0_addPotter_28 : decode cX0_addPotter 28 = .ok (.getfield 22, 3) := by decide +kernel
theorem dX0_addPotter_31 : decode cX0_addPotter 31 = .ok (.bipush 16, 2) := by decide +kernel
theorem dX0_addPotter_33 : decode cX0_addPotter 33 = .ok (.iload 5, 2) := by decide +kernel
theorem dX0_addPotter_35 : decode cX0_addPotter 35 = .ok (.iadd, 1) := by decide +kernel
theorem dX0_addPotter_36 : decode cX0_addPotter 36 = .ok (.iload_n 3, 1) := by decide +kernel
theorem dX0_addPotter_37 : decode cX0_addPotter 37 = .ok (.iastore, 1) := by decide +kernel
theorem dX0_addPotter_38 : decode cX0_addPotter 38 = .ok (.aload_n 0, 1) := by decide +kernel
theorem dX0_addPotter_39 : decode cX0_addPotter 39 = .ok (.getfield 22, 3) := by decide +kernel
theorem dX0_addPotter_42 : decode cX0_addPotter 42 = .ok (.bipush 24, 2) := by decide +kernel
theorem dX0_addPotter_44 : decode cX0_addPotter 44 = .ok (.iload 5, 2) := by decide +kernel
theorem dX0_addPotter_46 : decode cX0_addPotter 46 = .ok (.iadd, 1) := by decide +kernel
theorem dX0_addPotter_47 : decode cX0_addPotter 47 = .ok (.iload 4, 2) := by decide +kernel
theorem dX0_addPotter_49 : decode cX0_addPotter 49 = .ok (.iastore, 1) := by decide +kernel
theorem dX0_addPotter_50 : decode cX0_addPotter 50 = .ok (.aload_n 0, 1) := by decide +kernel
theorem dX0_addPotter_51 : decode cX0_addPotter 51 = .ok (.getfield 22, 3) := by decide +kernel
theorem dX0_addPotter_54 : decode cX0_addPotter 54 = .ok (.bipush 32, 2) := by decide +kernel
theorem dX0_addPotter_56 : decode cX0_addPotter 56 = .ok (.iload 5, 2) := by decide +kernel
theorem dX0_addPotter_58 : decode cX0_addPotter 58 = .ok (.iadd, 1) := by decide +kernel
theorem dX0_addPotter_59 : decode cX0_addPotter 59 = .ok (.iconst 0, 1) := by decide +kernel
theorem dX0_addPotter_60 : decode cX0_addPotter 60 = .ok (.iastore, 1) := by decide +kernel
theorem dX0_addPotter_61 : decode cX0_addPotter 61 = .ok (.aload_n 0, 1) := by decide +kernel
theorem dX0_addPotter_62 : decode cX0_addPotter 62 = .ok (.getfield 22, 3) := by decide +kernel
theorem dX0_addPotter_65 : decode cX0_addPotter 65 = .ok (.bipush 40, 2) := by decide +kernel
theorem dX0_addPotter_67 : decode cX0_addPotter 67 = .ok (.iload 5, 2) := by decide +kernel
theorem dX0_addPotter_69 : decode cX0_addPotter 69 = .ok (.iadd, 1) := by decide +kernel
theorem dX0_addPotter_70 : decode cX0_addPotter 70 = .ok (.iconst 0, 1) := by decide +kernel
theorem dX0_addPotter_71 : decode cX0_addPotter 71 = .ok (.iastore, 1) := by decide +kernel
theorem dX0_addPotter_72 : decode cX0_addPotter 72 = .ok (.aload_n 0, 1) := by decide +kernel
theorem dX0_addPotter_73 : decode cX0_addPotter 73 = .ok (.dup, 1) := by decide +kernel
theorem dX0_addPotter_74 : decode cX0_addPotter 74 = .ok (.getfield 49, 3) := by decide +kernel
theorem dX0_addPotter_77 : decode cX0_addPotter 77 = .ok (.iconst 1, 1) := by decide +kernel
theorem dX0_addPotter_78 : decode cX0_addPotter 78 = .ok (.iadd, 1) := by decide +kernel
theorem dX0_addPotter_79 : decode cX0_addPotter 79 = .ok (.putfield 49, 3) := by decide +kernel
theorem dX0_addPotter_82 : decode cX0_addPotter 82 = .ok (.iload 5, 2) := by decide +kernel
theorem dX0_addPotter_84 : decode cX0_addPotter 84 = .ok (.ireturn, 1) := by decide +kernel
theorem dX0_tell_0 : decode cX0_tell 0 = .ok (.iload_n 2, 1) := by decide +kernel
theorem dX0_tell_1 : decode cX0_tell 1 = .ok (.iconst 5, 1) := by decide +kernel
theorem dX0_tell_2 : decode cX0_tell 2 = .ok (.if_icmp .gt 15, 3) := by decide +kernel
theorem dX0_tell_5 : decode cX0_tell 5 = .ok (.aload_n 0, 1) := by decide +kernel
theorem dX0_tell_6 : decode cX0_tell 6 = .ok (.getfield 22, 3) := by decide +kernel
theorem dX0_tell_9 : decode cX0_tell 9 = .ok (.bipush 8, 2) := by decide +kernel
theorem dX0_tell_11 : decode cX0_tell 11 = .ok (.iload_n 2, 1) := by decide +kernel
theorem dX0_tell_12 : decode cX0_tell 12 = .ok (.imul, 1) := by decide +kernel
theorem dX0_tell_13 : decode cX0_tell 13 = .ok (.iload_n 1, 1) := by decide +kernel
theorem dX0_tell_14 : decode cX0_tell 14 = .ok (.iadd, 1) := by decide +kernel
theorem dX0_tell_15 : decode cX0_tell 15 = .ok (.iaload, 1) := by decide +kernel
theorem dX0_tell_16 : decode cX0_tell 16 = .ok (.ireturn, 1) := by decide +kernel
theorem dX0_tell_17 : decode cX0_tell 17 = .ok (.iload_n 2, 1) := by decide +kernel
theorem dX0_tell_18 : decode cX0_tell 18 = .ok (.tableswitch 51 6 8 #[26, 32, 38], 26) := by decide +kernel
theorem dX0_tell_44 : decode cX0_tell 44 = .ok (.aload_n 0, 1) := by decide +kernel
theorem dX0_tell_45 : decode cX0_tell 45 = .ok (.iload_n 1, 1) := by decide +kernel
theorem dX0_tell_46 : decode cX0_tell 46 = .ok (.invokevirtual 62, 3) := by decide +kernel
theorem dX0_tell_49 : decode cX0_tell 49 = .ok (.ireturn, 1) := by decide +kernel
theorem dX0_tell_50 : decode cX0_tell 50 = .ok (.aload_n 0, 1) := by decide +kernel
theorem dX0_tell_51 : decode cX0_tell 51 = .ok (.iload_n 1, 1) := by decide +kernel
theorem dX0_tell_52 : decode cX0_tell 52 = .ok (.invokevirtual 66, 3) := by decide +kernel
theorem dX0_tell_55 : decode cX0_tell 55 = .ok (.ireturn, 1) := by decide +kernel
theorem dX0_tell_56 : decode cX0_tell 56 = .ok (.getstatic 69, 3) := by decide +kernel
theorem dX0_tell_59 : decode cX0_tell 59 = .ok (.aload_n 0, 1) := by decide +kernel
theorem dX0_tell_60 : decode cX0_tell 60 = .ok (.getfield 22, 3) := by decide +kernel
theorem dX0_tell_63 : decode cX0_tell 63 = .ok (.iconst 0, 1) := by decide +kernel
theorem dX0_tell_64 : decode cX0_tell 64 = .ok (.iload_n 1, 1) := by decide +kernel
theorem dX0_tell_65 : decode cX0_tell 65 = .ok (.iadd, 1) := by decide +kernel
theorem dX0_tell_66 : decode cX0_tell 66 = .ok (.iaload, 1) := by decide +kernel
theorem dX0_tell_67 : decode cX0_tell 67 = .ok (.iaload, 1) := by decide +kernel
theorem dX0_tell_68 : decode cX0_tell 68 = .ok (.ireturn, 1) := by decide +kernel
theorem dX0_tell_69 : decode cX0_tell 69 = .ok (.getstatic 72, 3) := by decide +kernel
theorem dX0_tell_72 : decode cX0_tell 72 = .ok (.aload_n 0, 1) := by decide +kernel
theorem dX0_tell_73 : decode cX0_tell 73 = .ok (.getfield 22, 3) := by decide +kernel
theorem dX0_tell_76 : decode cX0_tell 76 = .ok (.iconst 0, 1) := by decide +kernel
theorem dX0_tell_77 : decode cX0_tell 77 = .ok (.iload_n 1, 1) := by decide +kernel
theorem dX0_tell_78 : decode cX0_tell 78 = .ok (.iadd, 1) := by decide +kernel
theorem dX0_tell_79 : decode cX0_tell 79 = .ok (.iaload, 1) := by decide +kernel
theorem dX0_tell_80 : decode cX0_tell 80 = .ok (.iaload, 1) := by decide +kernel
theorem dX0_tell_81 : decode cX0_tell 81 = .ok (.ireturn, 1) := by decide +kernel
theorem dX0_pushes_0 : decode cX0_pushes 0 = .ok (.aload_n 0, 1) := by decide +kernel
theorem dX0_pushes_1 : decode cX0_pushes 1 = .ok (.getfield 22, 3) := by decide +kernel
theorem dX0_pushes_4 : decode cX0_pushes 4 = .ok (.bipush 8, 2) := by decide +kernel
theorem dX0_pushes_6 : decode cX0_pushes 6 = .ok (.iload_n 1, 1) := by decide +kernel
theorem dX0_pushes_7 : decode cX0_pushes 7 = .ok (.iadd, 1) := by decide +kernel
theorem dX0_pushes_8 : decode cX0_pushes 8 = .ok (.iaload, 1) := by decide +kernel
theorem dX0_pushes_9 : decode cX0_pushes 9 = .ok (.bipush 10, 2) := by decide +kernel
theorem dX0_pushes_11 : decode cX0_pushes 11 = .ok (.idiv, 1) := by decide +kernel
theorem dX0_pushes_12 : decode cX0_pushes 12 = .ok (.istore_n 2, 1) := by decide +kernel
theorem dX0_pushes_13 : decode cX0_pushes 13 = .ok (.iload_n 2, 1) := by decide +kernel
theorem dX0_pushes_14 : decode cX0_pushes 14 = .ok (.aload_n 0, 1) := by decide +kernel
theorem dX0_pushes_15 : decode cX0_pushes 15 = .ok (.getfield 22, 3) := by decide +kernel
theorem dX0_pushes_18 : decode cX0_pushes 18 = .ok (.bipush 24, 2) := by decide +kernel
theorem dX0_pushes_20 : decode cX0_pushes 20 = .ok (.iload_n 1, 1) := by decide +kernel
theorem dX0_pushes_21 : decode cX0_pushes 21 = .ok (.iadd, 1) := by decide +kernel
theorem dX0_pushes_22 : decode cX0_pushes 22 = .ok (.iaload, 1) := by decide +kernel
theorem dX0_pushes_23 : decode cX0_pushes 23 = .ok (.bipush 10, 2) := by decide +kernel
theorem dX0_pushes_25 : decode cX0_pushes 25 = .ok (.idiv, 1) := by decide +kernel
theorem dX0_pushes_26 : decode cX0_pushes 26 = .ok (.iadd, 1) := by decide +kernel
theorem dX0_pushes_27 : decode cX0_pushes 27 = .ok (.istore_n 3, 1) := by decide +kernel
theorem dX0_pushes_28 : decode cX0_pushes 28 = .ok (.aload_n 0, 1) := by decide +kernel
theorem dX0_pushes_29 : decode cX0_pushes 29 = .ok (.getfield 22, 3) := by decide +kernel
theorem dX0_pushes_32 : decode cX0_pushes 32 = .ok (.bipush 16, 2) := by decide +kernel
theorem dX0_pushes_34 : decode cX0_pushes 34 = .ok (.iload_n 1, 1) := by decide +kernel
theorem dX0_pushes_35 : decode cX0_pushes 35 = .ok (.iadd, 1) := by decide +kernel
theorem dX0_pushes_36 : decode cX0_pushes 36 = .ok (.iaload, 1) := by decide +kernel
theorem dX0_pushes_37 : decode cX0_pushes 37 = .ok (.istore 4, 2) := by decide +kernel
theorem dX0_pushes_39 : decode cX0_pushes 39 = .ok (.aload_n 0, 1) := by decide +kernel
theorem dX0_pushes_40 : decode cX0_pushes 40 = .ok (.getfield 22, 3) := by decide +kernel
theorem dX0_pushes_43 : decode cX0_pushes 43 = .ok (.iconst 0, 1) := by decide +kernel
theorem dX0_pushes_44 : decode cX0_pushes 44 = .ok (.iload_n 1, 1) := by decide +kernel
theorem dX0_pushes_45 : decode cX0_pushes 45 = .ok (.iadd, 1) := by decide +kernel
theorem dX0_pushes_46 : decode cX0_pushes 46 = .ok (.iaload, 1) := by decide +kernel
theorem dX0_pushes_47 : decode cX0_pushes 47 = .ok (.tableswitch 88 0 6 #[41, 43, 71, 45, 57, 88, 75], 41) := by decide +kernel
theorem dX0_pushes_88 : decode cX0_pushes 88 = .ok (.iload_n 2, 1) := by decide +kernel
theorem dX0_pushes_89 : decode cX0_pushes 89 = .ok (.ireturn, 1) := by decide +kernel
theorem dX0_pushes_90 : decode cX0_pushes 90 = .ok (.iload_n 3, 1) := by decide +kernel
theorem dX0_pushes_91 : decode cX0_pushes 91 = .ok (.ireturn, 1) := by decide +kernel
theorem dX0_pushes_92 : decode cX0_pushes 92 = .ok (.iload_n 3, 1) := by decide +kernel
theorem dX0_pushes_93 : decode cX0_pushes 93 = .ok (.iload 4, 2) := by decide +kernel
theorem dX0_pushes_95 : decode cX0_pushes 95 = .ok (.bipush 10, 2) := by decide +kernel
theorem dX0_pushes_97 : decode cX0_pushes 97 = .ok (.idiv, 1) := by decide +kernel
theorem dX0_pushes_98 : decode cX0_pushes 98 = .ok (.isub, 1) := by decide +kernel
theorem dX0_pushes_99 : decode cX0_pushes 99 = .ok (.iconst 0, 1) := by decide +kernel
theorem dX0_pushes_100 : decode cX0_pushes 100 = .ok (.invokestatic 75, 3) := by decide +kernel
theorem dX0_pushes_103 : decode cX0_pushes 103 = .ok (.ireturn, 1) := by decide +kernel
theorem dX0_pushes_104 : decode cX0_pushes 104 = .ok (.iload_n 3, 1) := by decide +kernel
theorem dX0_pushes_105 : decode cX0_pushes 105 = .ok (.iload 4, 2) := by decide +kernel
theorem dX0_pushes_107 : decode cX0_pushes 107 = .ok (.bipush 10, 2) := by decide +kernel
theorem dX0_pushes_109 : decode cX0_pushes 109 = .ok (.idiv, 1) := by decide +kernel
theorem dX0_pushes_110 : decode cX0_pushes 110 = .ok (.isub, 1) := by decide +kernel
theorem dX0_pushes_111 : decode cX0_pushes 111 = .ok (.iconst 0, 1) := by decide +kernel
theorem dX0_pushes_112 : decode cX0_pushes 112 = .ok (.invokestatic 75, 3) := by decide +kernel
theorem dX0_pushes_115 : decode cX0_pushes 115 = .ok (.iconst 2, 1) := by decide +kernel
theorem dX0_pushes_116 : decode cX0_pushes 116 = .ok (.iadd, 1) := by decide +kernel
theorem dX0_pushes_117 : decode cX0_pushes 117 = .ok (.ireturn, 1) := by decide +kernel
theorem dX0_pushes_118 : decode cX0_pushes 118 = .ok (.iconst 2, 1) := by decide +kernel
theorem dX0_pushes_119 : decode cX0_pushes 119 = .ok (.iload_n 2, 1) := by decide +kernel
theorem dX0_pushes_120 : decode cX0_pushes 120 = .ok (.imul, 1) := by decide +kernel
theorem dX0_pushes_121 : decode cX0_pushes 121 = .ok (.ireturn, 1) := by decide +kernel
theorem dX0_pushes_122 : decode cX0_pushes 122 = .ok (.iconst 2, 1) := by decide +kernel
theorem dX0_pushes_123 : decode cX0_pushes 123 = .ok (.iload_n 2, 1) := by decide +kernel
theorem dX0_pushes_124 : decode cX0_pushes 124 = .ok (.imul, 1) := by decide +kernel
theorem dX0_pushes_125 : decode cX0_pushes 125 = .ok (.iload 4, 2) := by decide +kernel
theorem dX0_pushes_127 : decode cX0_pushes 127 = .ok (.iconst 5, 1) := by decide +kernel
theorem dX0_pushes_128 : decode cX0_pushes 128 = .ok (.idiv, 1) := by decide +kernel
theorem dX0_pushes_129 : decode cX0_pushes 129 = .ok (.isub, 1) := by decide +kernel
theorem dX0_pushes_130 : decode cX0_pushes 130 = .ok (.iconst 0, 1) := by decide +kernel
theorem dX0_pushes_131 : decode cX0_pushes 131 = .ok (.invokestatic 75, 3) := by decide +kernel
theorem dX0_pushes_134 : decode cX0_pushes 134 = .ok (.ireturn, 1) := by decide +kernel
theorem dX0_pushes_135 : decode cX0_pushes 135 = .ok (.iconst 1, 1) := by decide +kernel
theorem dX0_pushes_136 : decode cX0_pushes 136 = .ok (.ireturn, 1) := by decide +kernel
theorem dX0_says_0 : decode cX0_says 0 = .ok (.aload_n 0, 1) := by decide +kernel
theorem dX0_says_1 : decode cX0_says 1 = .ok (.getfield 22, 3) := by decide +kernel
theorem dX0_says_4 : decode cX0_says 4 = .ok (.bipush 8, 2) := by decide +kernel
theorem dX0_says_6 : decode cX0_says 6 = .ok (.iload_n 1, 1) := by decide +kernel
theorem dX0_says_7 : decode cX0_says 7 = .ok (.iadd, 1) := by decide +kernel
theorem dX0_says_8 : decode cX0_says 8 = .ok (.iaload, 1) := by decide +kernel
theorem dX0_says_9 : decode cX0_says 9 = .ok (.bipush 50, 2) := by decide +kernel
theorem dX0_says_11 : decode cX0_says 11 = .ok (.if_icmp .lt 7, 3) := by decide +kernel
theorem dX0_says_14 : decode cX0_says 14 = .ok (.iconst 1, 1) := by decide +kernel
theorem dX0_says_15 : decode cX0_says 15 = .ok (.goto 4, 3) := by decide +kernel
theorem dX0_says_18 : decode cX0_says 18 = .ok (.iconst (-1), 1) := by decide +kernel
theorem dX0_says_19 : decode cX0_says 19 = .ok (.istore_n 2, 1) := by decide +kernel
theorem dX0_says_20 : decode cX0_says 20 = .ok (.aload_n 0, 1) := by decide +kernel
theorem dX0_says_21 : decode cX0_says 21 = .ok (.getfield 22, 3) := by decide +kernel
theorem dX0_says_24 : decode cX0_says 24 = .ok (.bipush 16, 2) := by decide +kernel
theorem dX0_says_26 : decode cX0_says 26 = .ok (.iload_n 1, 1) := by decide +kernel
theorem dX0_says_27 : decode cX0_says 27 = .ok (.iadd, 1) := by decide +kernel
theorem dX0_says_28 : decode cX0_says 28 = .ok (.iaload, 1) := by decide +kernel
theorem dX0_says_29 : decode cX0_says 29 = .ok (.istore_n 3, 1) := by decide +kernel
theorem dX0_says_30 : decode cX0_says 30 = .ok (.aload_n 0, 1) := by decide +kernel
theorem dX0_says_31 : decode cX0_says 31 = .ok (.getfield 22, 3) := by decide +kernel
theorem dX0_says_34 : decode cX0_says 34 = .ok (.iconst 0, 1) := by decide +kernel
theorem dX0_says_35 : decode cX0_says 35 = .ok (.iload_n 1, 1) := by decide +kernel
theorem dX0_says_36 : decode cX0_says 36 = .ok (.iadd, 1) := by decide +kernel
theorem dX0_says_37 : decode cX0_says 37 = .ok (.iaload, 1) := by decide +kernel
theorem dX0_says_38 : decode cX0_says 38 = .ok (.tableswitch 75 1 6 #[38, 75, 42, 57, 60, 62], 38) := by decide +kernel
theorem dX0_says_76 : decode cX0_says 76 = .ok (.iload_n 2, 1) := by decide +kernel
theorem dX0_says_77 : decode cX0_says 77 = .ok (.iconst 1, 1) := by decide +kernel
theorem dX0_says_78 : decode cX0_says 78 = .ok (.iadd, 1) := by decide +kernel
theorem dX0_says_79 : decode cX0_says 79 = .ok (.ireturn, 1) := by decide +kernel
theorem dX0_says_80 : decode cX0_says 80 = .ok (.iload_n 3, 1) := by decide +kernel
theorem dX0_says_81 : decode cX0_says 81 = .ok (.bipush 60, 2) := by decide +kernel
theorem dX0_says_83 : decode cX0_says 83 = .ok (.if_icmp .lt 8, 3) := by decide +kernel
theorem dX0_says_86 : decode cX0_says 86 = .ok (.bipush (-3), 2) := by decide +kernel
theorem dX0_says_88 : decode cX0_says 88 = .ok (.goto 6, 3) := by decide +kernel
theorem dX0_says_91 : decode cX0_says 91 = .ok (.iload_n 2, 1) := by decide +kernel
theorem dX0_says_92 : decode cX0_says 92 = .ok (.iconst 1, 1) := by decide +kernel
theorem dX0_says_93 : decode cX0_says 93 = .ok (.iadd, 1) := by decide +kernel
theorem dX0_says_94 : decode cX0_says 94 = .ok (.ireturn, 1) := by decide +kernel
theorem dX0_says_95 : decode cX0_says 95 = .ok (.bipush (-2), 2) := by decide +kernel
theorem dX0_says_97 : decode cX0_says 97 = .ok (.ireturn, 1) := by decide +kernel
theorem dX0_says_98 : decode cX0_says 98 = .ok (.iconst 0, 1) := by decide +kernel
theorem dX0_says_99 : decode cX0_says 99 = .ok (.ireturn, 1) := by decide +kernel
theorem dX0_says_100 : decode cX0_says 100 = .ok (.iload_n 3, 1) := by decide +kernel
theorem dX0_says_101 : decode cX0_says 101 = .ok (.bipush 10, 2) := by decide +kernel
theorem dX0_says_103 : decode cX0_says 103 = .ok (.if_icmp .ge 8, 3) := by decide +kernel
theorem dX0_says_106 : decode cX0_says 106 = .ok (.bipush 20, 2) := by decide +kernel
theorem dX0_says_108 : decode cX0_says 108 = .ok (.goto 4, 3) := by decide +kernel
theorem dX0_says_111 : decode cX0_says 111 = .ok (.iload_n 2, 1) := by decide +kernel
theorem dX0_says_112 : decode cX0_says 112 = .ok (.ireturn, 1) := by decide +kernel
theorem dX0_says_113 : decode cX0_says 113 = .ok (.iload_n 2, 1) := by decide +kernel
theorem dX0_says_114 : decode cX0_says 114 = .ok (.ireturn, 1) := by decide +kernel
theorem dX0_riftOf_0 : decode cX0_riftOf 0 = .ok (.aload_n 0, 1) := by decide +kernel
theorem dX0_riftOf_1 : decode cX0_riftOf 1 = .ok (.getfield 25, 3) := by decide +kernel
theorem dX0_riftOf_4 : decode cX0_riftOf 4 = .ok (.iload_n 1, 1) := by decide +kernel
theorem dX0_riftOf_5 : decode cX0_riftOf 5 = .ok (.iload_n 2, 1) := by decide +kernel
theorem dX0_riftOf_6 : decode cX0_riftOf 6 = .ok (.invokestatic 81, 3) := by decide +kernel
theorem dX0_riftOf_9 : decode cX0_riftOf 9 = .ok (.iaload, 1) := by decide +kernel
theorem dX0_riftOf_10 : decode cX0_riftOf 10 = .ok (.ireturn, 1) := by decide +kernel
theorem dX0_setRift_0 : decode cX0_setRift 0 = .ok (.aload_n 0, 1) := by decide +kernel
theorem dX0_setRift_1 : decode cX0_setRift 1 = .ok (.getfield 25, 3) := by decide +kernel
theorem dX0_setRift_4 : decode cX0_setRift 4 = .ok (.iload_n 1, 1) := by decide +kernel
theorem dX0_setRift_5 : decode cX0_setRift 5 = .ok (.iload_n 2, 1) := by decide +kernel
theorem dX0_setRift_6 : decode cX0_setRift 6 = .ok (.invokestatic 81, 3) := by decide +kernel
theorem dX0_setRift_9 : decode cX0_setRift 9 = .ok (.iload_n 3, 1) := by decide +kernel
theorem dX0_setRift_10 : decode cX0_setRift 10 = .ok (.iastore, 1) := by decide +kernel
theorem dX0_setRift_11 : decode cX0_setRift 11 = .ok (.return_, 1) := by decide +kernel
theorem dX0_riftPlace_0 : decode cX0_riftPlace 0 = .ok (.iload_n 0, 1) := by decide +kernel
theorem dX0_riftPlace_1 : decode cX0_riftPlace 1 = .ok (.iload_n 1, 1) := by decide +kernel
theorem dX0_riftPlace_2 : decode cX0_riftPlace 2 = .ok (.if_icmp .ge 12, 3) := by decide +kernel
theorem dX0_riftPlace_5 : decode cX0_riftPlace 5 = .ok (.bipush 8, 2) := by decide +kernel
theorem dX0_riftPlace_7 : decode cX0_riftPlace 7 = .ok (.iload_n 0, 1) := by decide +kernel
theorem dX0_riftPlace_8 : decode cX0_riftPlace 8 = .ok (.imul, 1) := by decide +kernel
theorem dX0_riftPlace_9 : decode cX0_riftPlace 9 = .ok (.iload_n 1, 1) := by decide +kernel
theorem dX0_riftPlace_10 : decode cX0_riftPlace 10 = .ok (.iadd, 1) := by decide +kernel
theorem dX0_riftPlace_11 : decode cX0_riftPlace 11 = .ok (.goto 9, 3) := by decide +kernel
theorem dX0_riftPlace_14 : decode cX0_riftPlace 14 = .ok (.bipush 8, 2) := by decide +kernel
theorem dX0_riftPlace_16 : decode cX0_riftPlace 16 = .ok (.iload_n 1, 1) := by decide +kernel
theorem dX0_riftPlace_17 : decode cX0_riftPlace 17 = .ok (.imul, 1) := by decide +kernel
theorem dX0_riftPlace_18 : decode cX0_riftPlace 18 = .ok (.iload_n 0, 1) := by decide +kernel
theorem dX0_riftPlace_19 : decode cX0_riftPlace 19 = .ok (.iadd, 1) := by decide +kernel
theorem dX0_riftPlace_20 : decode cX0_riftPlace 20 = .ok (.ireturn, 1) := by decide +kernel
theorem dX0_rises_0 : decode cX0_rises 0 = .ok (.iload_n 3, 1) := by decide +kernel
theorem dX0_rises_1 : decode cX0_rises 1 = .ok (.aload_n 0, 1) := by decide +kernel
theorem dX0_rises_2 : decode cX0_rises 2 = .ok (.iload_n 1, 1) := by decide +kernel
theorem dX0_rises_3 : decode cX0_rises 3 = .ok (.iload_n 2, 1) := by decide +kernel
theorem dX0_rises_4 : decode cX0_rises 4 = .ok (.invokevirtual 84, 3) := by decide +kernel
theorem dX0_rises_7 : decode cX0_rises 7 = .ok (.imul, 1) := by decide +kernel
theorem dX0_rises_8 : decode cX0_rises 8 = .ok (.bipush 20, 2) := by decide +kernel
theorem dX0_rises_10 : decode cX0_rises 10 = .ok (.idiv, 1) := by decide +kernel
theorem dX0_rises_11 : decode cX0_rises 11 = .ok (.ireturn, 1) := by decide +kernel
theorem dX0_leans_0 : decode cX0_leans 0 = .ok (.aload_n 0, 1) := by decide +kernel
theorem dX0_leans_1 : decode cX0_leans 1 = .ok (.iload_n 1, 1) := by decide +kernel
theorem dX0_leans_2 : decode cX0_leans 2 = .ok (.invokevirtual 62, 3) := by decide +kernel
theorem dX0_leans_5 : decode cX0_leans 5 = .ok (.aload_n 0, 1) := by decide +kernel
theorem dX0_leans_6 : decode cX0_leans 6 = .ok (.iload_n 2, 1) := by decide +kernel
theorem dX0_leans_7 : decode cX0_leans 7 = .ok (.invokevirtual 62, 3) := by decide +kernel
theorem dX0_leans_10 : decode cX0_leans 10 = .ok (.isub, 1) := by decide +kernel
theorem dX0_leans_11 : decode cX0_leans 11 = .ok (.ireturn, 1) := by decide +kernel
theorem dX0_claysThatStand_0 : decode cX0_claysThatStand 0 = .ok (.aload_n 0, 1) := by decide +kernel
theorem dX0_claysThatStand_1 : decode cX0_claysThatStand 1 = .ok (.iload_n 1, 1) := by decide +kernel
theorem dX0_claysThatStand_2 : decode cX0_claysThatStand 2 = .ok (.iload_n 2, 1) := by decide +kernel
theorem dX0_claysThatStand_3 : decode cX0_claysThatStand 3 = .ok (.invokevirtual 87, 3) := by decide +kernel
theorem dX0_claysThatStand_6 : decode cX0_claysThatStand 6 = .ok (.istore_n 3, 1) := by decide +kernel
theorem dX0_claysThatStand_7 : decode cX0_claysThatStand 7 = .ok (.iconst 0, 1) := by decide +kernel
theorem dX0_claysThatStand_8 : decode cX0_claysThatStand 8 = .ok (.istore 4, 2) := by decide +kernel
theorem dX0_claysThatStand_10 : decode cX0_claysThatStand 10 = .ok (.iconst 1, 1) := by decide +kernel
theorem dX0_claysThatStand_11 : decode cX0_claysThatStand 11 = .ok (.istore 5, 2) := by decide +kernel
theorem dX0_claysThatStand_13 : decode cX0_claysThatStand 13 = .ok (.iload 5, 2) := by decide +kernel
theorem dX0_claysThatStand_15 : decode cX0_claysThatStand 15 = .ok (.bipush 20, 2) := by decide +kernel
theorem dX0_claysThatStand_17 : decode cX0_claysThatStand 17 = .ok (.if_icmp .gt 27, 3) := by decide +kernel
theorem dX0_claysThatStand_20 : decode cX0_claysThatStand 20 = .ok (.aload_n 0, 1) := by decide +kernel
theorem dX0_claysThatStand_21 : decode cX0_claysThatStand 21 = .ok (.iload_n 1, 1) := by decide +kernel
theorem dX0_claysThatStand_22 : decode cX0_claysThatStand 22 = .ok (.iload_n 2, 1) := by decide +kernel
theorem dX0_claysThatStand_23 : decode cX0_claysThatStand 23 = .ok (.iload 5, 2) := by decide +kernel
theorem dX0_claysThatStand_25 : decode cX0_claysThatStand 25 = .ok (.invokevirtual 90, 3) := by decide +kernel
theorem dX0_claysThatStand_28 : decode cX0_claysThatStand 28 = .ok (.iload_n 3, 1) := by decide +kernel
theorem dX0_claysThatStand_29 : decode cX0_claysThatStand 29 = .ok (.invokestatic 94, 3) := by decide +kernel
theorem dX0_claysThatStand_32 : decode cX0_claysThatStand 32 = .ok (.ifCond .ne 6, 3) := by decide +kernel
theorem dX0_claysThatStand_35 : decode cX0_claysThatStand 35 = .ok (.iinc 4 1, 3) := by decide +kernel
theorem dX0_claysThatStand_38 : decode cX0_claysThatStand 38 = .ok (.iinc 5 1, 3) := by decide +kernel
theorem dX0_claysThatStand_41 : decode cX0_claysThatStand 41 = .ok (.goto (-28), 3) := by decide +kernel
theorem dX0_claysThatStand_44 : decode cX0_claysThatStand 44 = .ok (.iload 4, 2) := by decide +kernel
theorem dX0_claysThatStand_46 : decode cX0_claysThatStand 46 = .ok (.ireturn, 1) := by decide +kernel
theorem dX0_passDays_0 : decode cX0_passDays 0 = .ok (.iconst 0, 1) := by decide +kernel
theorem dX0_passDays_1 : decode cX0_passDays 1 = .ok (.istore_n 2, 1) := by decide +kernel
theorem dX0_passDays_2 : decode cX0_passDays 2 = .ok (.iload_n 2, 1) := by decide +kernel
theorem dX0_passDays_3 : decode cX0_passDays 3 = .ok (.iload_n 1, 1) := by decide +kernel
theorem dX0_passDays_4 : decode cX0_passDays 4 = .ok (.if_icmp .ge 80, 3) := by decide +kernel
theorem dX0_passDays_7 : decode cX0_passDays 7 = .ok (.aload_n 0, 1) := by decide +kernel
theorem dX0_passDays_8 : decode cX0_passDays 8 = .ok (.getfield 18, 3) := by decide +kernel
theorem dX0_passDays_11 : decode cX0_passDays 11 = .ok (.aload_n 0, 1) := by decide +kernel
theorem dX0_passDays_12 : decode cX0_passDays 12 = .ok (.getfield 46, 3) := by decide +kernel
theorem dX0_passDays_15 : decode cX0_passDays 15 = .ok (.bipush 6, 2) := by decide +kernel
theorem dX0_passDays_17 : decode cX0_passDays 17 = .ok (.irem, 1) := by decide +kernel
theorem dX0_passDays_18 : decode cX0_passDays 18 = .ok (.iaload, 1) := by decide +kernel
theorem dX0_passDays_19 : decode cX0_passDays 19 = .ok (.istore_n 3, 1) := by decide +kernel
theorem dX0_passDays_20 : decode cX0_passDays 20 = .ok (.aload_n 0, 1) := by decide +kernel
theorem dX0_passDays_21 : decode cX0_passDays 21 = .ok (.iload_n 3, 1) := by decide +kernel
theorem dX0_passDays_22 : decode cX0_passDays 22 = .ok (.bipush 10, 2) := by decide +kernel
theorem dX0_passDays_24 : decode cX0_passDays 24 = .ok (.idiv, 1) := by decide +kernel
theorem dX0_passDays_25 : decode cX0_passDays 25 = .ok (.iload_n 3, 1) := by decide +kernel
theorem dX0_passDays_26 : decode cX0_passDays 26 = .ok (.bipush 10, 2) := by decide +kernel
theorem dX0_passDays_28 : decode cX0_passDays 28 = .ok (.irem, 1) := by decide +kernel
theorem dX0_passDays_29 : decode cX0_passDays 29 = .ok (.invokevirtual 98, 3) := by decide +kernel
theorem dX0_passDays_32 : decode cX0_passDays 32 = .ok (.ifCond .eq 15, 3) := by decide +kernel
theorem dX0_passDays_35 : decode cX0_passDays 35 = .ok (.aload_n 0, 1) := by decide +kernel
theorem dX0_passDays_36 : decode cX0_passDays 36 = .ok (.iload_n 3, 1) := by decide +kernel
theorem dX0_passDays_37 : decode cX0_passDays 37 = .ok (.bipush 10, 2) := by decide +kernel
theorem dX0_passDays_39 : decode cX0_passDays 39 = .ok (.idiv, 1) := by decide +kernel
theorem dX0_passDays_40 : decode cX0_passDays 40 = .ok (.iload_n 3, 1) := by decide +kernel
theorem dX0_passDays_41 : decode cX0_passDays 41 = .ok (.bipush 10, 2) := by decide +kernel
theorem dX0_passDays_43 : decode cX0_passDays 43 = .ok (.irem, 1) := by decide +kernel
theorem dX0_passDays_44 : decode cX0_passDays 44 = .ok (.invokevirtual 101, 3) := by decide +kernel
theorem dX0_passDays_47 : decode cX0_passDays 47 = .ok (.aload_n 0, 1) := by decide +kernel
theorem dX0_passDays_48 : decode cX0_passDays 48 = .ok (.getfield 46, 3) := by decide +kernel
theorem dX0_passDays_51 : decode cX0_passDays 51 = .ok (.bipush 10, 2) := by decide +kernel
theorem dX0_passDays_53 : decode cX0_passDays 53 = .ok (.irem, 1) := by decide +kernel
theorem dX0_passDays_54 : decode cX0_passDays 54 = .ok (.bipush 9, 2) := by decide +kernel
theorem dX0_passDays_56 : decode cX0_passDays 56 = .ok (.if_icmp .ne 7, 3) := by decide +kernel
theorem dX0_passDays_59 : decode cX0_passDays 59 = .ok (.aload_n 0, 1) := by decide +kernel
theorem dX0_passDays_60 : decode cX0_passDays 60 = .ok (.invokevirtual 105, 3) := by decide +kernel
theorem dX0_passDays_63 : decode cX0_passDays 63 = .ok (.aload_n 0, 1) := by decide +kernel
theorem dX0_passDays_64 : decode cX0_passDays 64 = .ok (.aload_n 0, 1) := by decide +kernel
theorem dX0_passDays_65 : decode cX0_passDays 65 = .ok (.getfield 46, 3) := by decide +kernel
theorem dX0_passDays_68 : decode cX0_passDays 68 = .ok (.iconst 1, 1) := by decide +kernel
theorem dX0_passDays_69 : decode cX0_passDays 69 = .ok (.iadd, 1) := by decide +kernel
theorem dX0_passDays_70 : decode cX0_passDays 70 = .ok (.ldc 108, 2) := by decide +kernel
theorem dX0_passDays_72 : decode cX0_passDays 72 = .ok (.invokestatic 109, 3) := by decide +kernel
theorem dX0_passDays_75 : decode cX0_passDays 75 = .ok (.putfield 46, 3) := by decide +kernel
theorem dX0_passDays_78 : decode cX0_passDays 78 = .ok (.iinc 2 1, 3) := by decide +kernel
theorem dX0_passDays_81 : decode cX0_passDays 81 = .ok (.goto (-79), 3) := by decide +kernel
theorem dX0_passDays_84 : decode cX0_passDays 84 = .ok (.return_, 1) := by decide +kernel
theorem dX0_throwsToday_0 : decode cX0_throwsToday 0 = .ok (.aload_n 0, 1) := by decide +kernel
theorem dX0_throwsToday_1 : decode cX0_throwsToday 1 = .ok (.getfield 18, 3) := by decide +kernel
theorem dX0_throwsToday_4 : decode cX0_throwsToday 4 = .ok (.aload_n 0, 1) := by decide +kernel
theorem dX0_throwsToday_5 : decode cX0_throwsToday 5 = .ok (.getfield 46, 3) := by decide +kernel
theorem dX0_throwsToday_8 : decode cX0_throwsToday 8 = .ok (.bipush 6, 2) := by decide +kernel
theorem dX0_throwsToday_10 : decode cX0_throwsToday 10 = .ok (.irem, 1) := by decide +kernel
theorem dX0_throwsToday_11 : decode cX0_throwsToday 11 = .ok (.iaload, 1) := by decide +kernel
theorem dX0_throwsToday_12 : decode cX0_throwsToday 12 = .ok (.istore_n 1, 1) := by decide +kernel
theorem dX0_throwsToday_13 : decode cX0_throwsToday 13 = .ok (.aload_n 0, 1) := by decide +kernel
theorem dX0_throwsToday_14 : decode cX0_throwsToday 14 = .ok (.iload_n 1, 1) := by decide +kernel
theorem dX0_throwsToday_15 : decode cX0_throwsToday 15 = .ok (.bipush 10, 2) := by decide +kernel
theorem dX0_throwsToday_17 : decode cX0_throwsToday 17 = .ok (.idiv, 1) := by decide +kernel
theorem dX0_throwsToday_18 : decode cX0_throwsToday 18 = .ok (.iload_n 1, 1) := by decide +kernel
theorem dX0_throwsToday_19 : decode cX0_throwsToday 19 = .ok (.bipush 10, 2) := by decide +kernel
theorem dX0_throwsToday_21 : decode cX0_throwsToday 21 = .ok (.irem, 1) := by decide +kernel
theorem dX0_throwsToday_22 : decode cX0_throwsToday 22 = .ok (.invokevirtual 98, 3) := by decide +kernel
theorem dX0_throwsToday_25 : decode cX0_throwsToday 25 = .ok (.ireturn, 1) := by decide +kernel
theorem dX0_throwPot_0 : decode cX0_throwPot 0 = .ok (.aload_n 0, 1) := by decide +kernel
theorem dX0_throwPot_1 : decode cX0_throwPot 1 = .ok (.iload_n 1, 1) := by decide +kernel
theorem dX0_throwPot_2 : decode cX0_throwPot 2 = .ok (.iload_n 2, 1) := by decide +kernel
theorem dX0_throwPot_3 : decode cX0_throwPot 3 = .ok (.aload_n 0, 1) := by decide +kernel
theorem dX0_throwPot_4 : decode cX0_throwPot 4 = .ok (.getfield 9, 3) := by decide +kernel
theorem dX0_throwPot_7 : decode cX0_throwPot 7 = .ok (.invokevirtual 90, 3) := by decide +kernel
theorem dX0_throwPot_10 : decode cX0_throwPot 10 = .ok (.istore_n 3, 1) := by decide +kernel
theorem dX0_throwPot_11 : decode cX0_throwPot 11 = .ok (.aload_n 0, 1) := by decide +kernel
theorem dX0_throwPot_12 : decode cX0_throwPot 12 = .ok (.iload_n 1, 1) := by decide +kernel
theorem dX0_throwPot_13 : decode cX0_throwPot 13 = .ok (.iload_n 2, 1) := by decide +kernel
theorem dX0_throwPot_14 : decode cX0_throwPot 14 = .ok (.invokevirtual 87, 3) := by decide +kernel
theorem dX0_throwPot_17 : decode cX0_throwPot 17 = .ok (.istore 4, 2) := by decide +kernel
theorem dX0_throwPot_19 : decode cX0_throwPot 19 = .ok (.aload_n 0, 1) := by decide +kernel
theorem dX0_throwPot_20 : decode cX0_throwPot 20 = .ok (.iload_n 1, 1) := by decide +kernel
theorem dX0_throwPot_21 : decode cX0_throwPot 21 = .ok (.invokevirtual 66, 3) := by decide +kernel
theorem dX0_throwPot_24 : decode cX0_throwPot 24 = .ok (.aload_n 0, 1) := by decide +kernel
theorem dX0_throwPot_25 : decode cX0_throwPot 25 = .ok (.iload_n 2, 1) := by decide +kernel
theorem dX0_throwPot_26 : decode cX0_throwPot 26 = .ok (.invokevirtual 66, 3) := by decide +kernel
theorem dX0_throwPot_29 : decode cX0_throwPot 29 = .ok (.iadd, 1) := by decide +kernel
theorem dX0_throwPot_30 : decode cX0_throwPot 30 = .ok (.istore 5, 2) := by decide +kernel
theorem dX0_throwPot_32 : decode cX0_throwPot 32 = .ok (.iload_n 3, 1) := by decide +kernel
theorem dX0_throwPot_33 : decode cX0_throwPot 33 = .ok (.iload 4, 2) := by decide +kernel
theorem dX0_throwPot_35 : decode cX0_throwPot 35 = .ok (.invokestatic 94, 3) := by decide +kernel
theorem dX0_throwPot_38 : decode cX0_throwPot 38 = .ok (.ifCond .eq 16, 3) := by decide +kernel
theorem dX0_throwPot_41 : decode cX0_throwPot 41 = .ok (.aload_n 0, 1) := by decide +kernel
theorem dX0_throwPot_42 : decode cX0_throwPot 42 = .ok (.iload_n 1, 1) := by decide +kernel
theorem dX0_throwPot_43 : decode cX0_throwPot 43 = .ok (.invokevirtual 112, 3) := by decide +kernel
theorem dX0_throwPot_46 : decode cX0_throwPot 46 = .ok (.aload_n 0, 1) := by decide +kernel
theorem dX0_throwPot_47 : decode cX0_throwPot 47 = .ok (.iload_n 2, 1) := by decide +kernel
theorem dX0_throwPot_48 : decode cX0_throwPot 48 = .ok (.invokevirtual 112, 3) := by decide +kernel
theorem dX0_throwPot_51 : decode cX0_throwPot 51 = .ok (.goto 20, 3) := by decide +kernel
theorem dX0_throwPot_54 : decode cX0_throwPot 54 = .ok (.aload_n 0, 1) := by decide +kernel
theorem dX0_throwPot_55 : decode cX0_throwPot 55 = .ok (.iload_n 1, 1) := by decide +kernel
theorem dX0_throwPot_56 : decode cX0_throwPot 56 = .ok (.invokevirtual 116, 3) := by decide +kernel
theorem dX0_throwPot_59 : decode cX0_throwPot 59 = .ok (.aload_n 0, 1) := by decide +kernel
theorem dX0_throwPot_60 : decode cX0_throwPot 60 = .ok (.iload_n 2, 1) := by decide +kernel
theorem dX0_throwPot_61 : decode cX0_throwPot 61 = .ok (.invokevirtual 116, 3) := by decide +kernel
theorem dX0_throwPot_64 : decode cX0_throwPot 64 = .ok (.aload_n 0, 1) := by decide +kernel
theorem dX0_throwPot_65 : decode cX0_throwPot 65 = .ok (.iload_n 3, 1) := by decide +kernel
theorem dX0_throwPot_66 : decode cX0_throwPot 66 = .ok (.iload 4, 2) := by decide +kernel
theorem dX0_throwPot_68 : decode cX0_throwPot 68 = .ok (.invokevirtual 119, 3) := by decide +kernel
theorem dX0_throwPot_71 : decode cX0_throwPot 71 = .ok (.aload_n 0, 1) := by decide +kernel
theorem dX0_throwPot_72 : decode cX0_throwPot 72 = .ok (.iload_n 1, 1) := by decide +kernel
theorem dX0_throwPot_73 : decode cX0_throwPot 73 = .ok (.iload_n 2, 1) := by decide +kernel
theorem dX0_throwPot_74 : decode cX0_throwPot 74 = .ok (.iconst 0, 1) := by decide +kernel
theorem dX0_throwPot_75 : decode cX0_throwPot 75 = .ok (.aload_n 0, 1) := by decide +kernel
theorem dX0_throwPot_76 : decode cX0_throwPot 76 = .ok (.iload_n 1, 1) := by decide +kernel
theorem dX0_throwPot_77 : decode cX0_throwPot 77 = .ok (.iload_n 2, 1) := by decide +kernel
theorem dX0_throwPot_78 : decode cX0_throwPot 78 = .ok (.invokevirtual 84, 3) := by decide +kernel
theorem dX0_throwPot_81 : decode cX0_throwPot 81 = .ok (.iload 5, 2) := by decide +kernel
theorem dX0_throwPot_83 : decode cX0_throwPot 83 = .ok (.iadd, 1) := by decide +kernel
theorem dX0_throwPot_84 : decode cX0_throwPot 84 = .ok (.bipush 99, 2) := by decide +kernel
theorem dX0_throwPot_86 : decode cX0_throwPot 86 = .ok (.invokestatic 109, 3) := by decide +kernel
theorem dX0_throwPot_89 : decode cX0_throwPot 89 = .ok (.invokestatic 75, 3) := by decide +kernel
theorem dX0_throwPot_92 : decode cX0_throwPot 92 = .ok (.invokevirtual 122, 3) := by decide +kernel
theorem dX0_throwPot_95 : decode cX0_throwPot 95 = .ok (.return_, 1) := by decide +kernel
theorem dX0_flop_0 : decode cX0_flop 0 = .ok (.getstatic 72, 3) := by decide +kernel
theorem dX0_flop_3 : decode cX0_flop 3 = .ok (.aload_n 0, 1) := by decide +kernel
theorem dX0_flop_4 : decode cX0_flop 4 = .ok (.getfield 22, 3) := by decide +kernel
theorem dX0_flop_7 : decode cX0_flop 7 = .ok (.iconst 0, 1) := by decide +kernel
theorem dX0_flop_8 : decode cX0_flop 8 = .ok (.iload_n 1, 1) := by decide +kernel
theorem dX0_flop_9 : decode cX0_flop 9 = .ok (.iadd, 1) := by decide +kernel
theorem dX0_flop_10 : decode cX0_flop 10 = .ok (.iaload, 1) := by decide +kernel
theorem dX0_flop_11 : decode cX0_flop 11 = .ok (.iaload, 1) := by decide +kernel
theorem dX0_flop_12 : decode cX0_flop 12 = .ok (.istore_n 2, 1) := by decide +kernel
theorem dX0_flop_13 : decode cX0_flop 13 = .ok (.aload_n 0, 1) := by decide +kernel
theorem dX0_flop_14 : decode cX0_flop 14 = .ok (.getfield 22, 3) := by decide +kernel
theorem dX0_flop_17 : decode cX0_flop 17 = .ok (.bipush 40, 2) := by decide +kernel
theorem dX0_flop_19 : decode cX0_flop 19 = .ok (.iload_n 1, 1) := by decide +kernel
theorem dX0_flop_20 : decode cX0_flop 20 = .ok (.iadd, 1) := by decide +kernel
theorem dX0_flop_21 : decode cX0_flop 21 = .ok (.aload_n 0, 1) := by decide +kernel
theorem dX0_flop_22 : decode cX0_flop 22 = .ok (.getfield 22, 3) := by decide +kernel
theorem dX0_flop_25 : decode cX0_flop 25 = .ok (.bipush 40, 2) := by decide +kernel
theorem dX0_flop_27 : decode cX0_flop 27 = .ok (.iload_n 1, 1) := by decide +kernel
theorem dX0_flop_28 : decode cX0_flop 28 = .ok (.iadd, 1) := by decide +kernel
theorem dX0_flop_29 : decode cX0_flop 29 = .ok (.iaload, 1) := by decide +kernel
theorem dX0_flop_30 : decode cX0_flop 30 = .ok (.iconst 1, 1) := by decide +kernel
theorem dX0_flop_31 : decode cX0_flop 31 = .ok (.iadd, 1) := by decide +kernel
theorem dX0_flop_32 : decode cX0_flop 32 = .ok (.sipush 9999, 3) := by decide +kernel
theorem dX0_flop_35 : decode cX0_flop 35 = .ok (.invokestatic 109, 3) := by decide +kernel
theorem dX0_flop_38 : decode cX0_flop 38 = .ok (.iastore, 1) := by decide +kernel
theorem dX0_flop_39 : decode cX0_flop 39 = .ok (.aload_n 0, 1) := by decide +kernel
theorem dX0_flop_40 : decode cX0_flop 40 = .ok (.getfield 22, 3) := by decide +kernel
theorem dX0_flop_43 : decode cX0_flop 43 = .ok (.bipush 8, 2) := by decide +kernel
theorem dX0_flop_45 : decode cX0_flop 45 = .ok (.iload_n 1, 1) := by decide +kernel
theorem dX0_flop_46 : decode cX0_flop 46 = .ok (.iadd, 1) := by decide +kernel
theorem dX0_flop_47 : decode cX0_flop 47 = .ok (.aload_n 0, 1) := by decide +kernel
theorem dX0_flop_48 : decode cX0_flop 48 = .ok (.getfield 22, 3) := by decide +kernel
theorem dX0_flop_51 : decode cX0_flop 51 = .ok (.bipush 8, 2) := by decide +kernel
theorem dX0_flop_53 : decode cX0_flop 53 = .ok (.iload_n 1, 1) := by decide +kernel
theorem dX0_flop_54 : decode cX0_flop 54 = .ok (.iadd, 1) := by decide +kernel
theorem dX0_flop_55 : decode cX0_flop 55 = .ok (.iaload, 1) := by decide +kernel
theorem dX0_flop_56 : decode cX0_flop 56 = .ok (.iload_n 2, 1) := by decide +kernel
theorem dX0_flop_57 : decode cX0_flop 57 = .ok (.iadd, 1) := by decide +kernel
theorem dX0_flop_58 : decode cX0_flop 58 = .ok (.bipush 99, 2) := by decide +kernel
theorem dX0_flop_60 : decode cX0_flop 60 = .ok (.invokestatic 109, 3) := by decide +kernel
theorem dX0_flop_63 : decode cX0_flop 63 = .ok (.iastore, 1) := by decide +kernel
theorem dX0_flop_64 : decode cX0_flop 64 = .ok (.return_, 1) := by decide +kernel
theorem dX0_stand_0 : decode cX0_stand 0 = .ok (.getstatic 69, 3) := by decide +kernel
theorem dX0_stand_3 : decode cX0_stand 3 = .ok (.aload_n 0, 1) := by decide +kernel
theorem dX0_stand_4 : decode cX0_stand 4 = .ok (.getfield 22, 3) := by decide +kernel
theorem dX0_stand_7 : decode cX0_stand 7 = .ok (.iconst 0, 1) := by decide +kernel
theorem dX0_stand_8 : decode cX0_stand 8 = .ok (.iload_n 1, 1) := by decide +kernel
theorem dX0_stand_9 : decode cX0_stand 9 = .ok (.iadd, 1) := by decide +kernel
theorem dX0_stand_10 : decode cX0_stand 10 = .ok (.iaload, 1) := by decide +kernel
theorem dX0_stand_11 : decode cX0_stand 11 = .ok (.iaload, 1) := by decide +kernel
theorem dX0_stand_12 : decode cX0_stand 12 = .ok (.istore_n 2, 1) := by decide +kernel
theorem dX0_stand_13 : decode cX0_stand 13 = .ok (.aload_n 0, 1) := by decide +kernel
theorem dX0_stand_14 : decode cX0_stand 14 = .ok (.getfield 22, 3) := by decide +kernel
theorem dX0_stand_17 : decode cX0_stand 17 = .ok (.bipush 32, 2) := by decide +kernel
theorem dX0_stand_19 : decode cX0_stand 19 = .ok (.iload_n 1, 1) := by decide +kernel
theorem dX0_stand_20 : decode cX0_stand 20 = .ok (.iadd, 1) := by decide +kernel
theorem dX0_stand_21 : decode cX0_stand 21 = .ok (.aload_n 0, 1) := by decide +kernel
theorem dX0_stand_22 : decode cX0_stand 22 = .ok (.getfield 22, 3) := by decide +kernel
theorem dX0_stand_25 : decode cX0_stand 25 = .ok (.bipush 32, 2) := by decide +kernel
theorem dX0_stand_27 : decode cX0_stand 27 = .ok (.iload_n 1, 1) := by decide +kernel
theorem dX0_stand_28 : decode cX0_stand 28 = .ok (.iadd, 1) := by decide +kernel
theorem dX0_stand_29 : decode cX0_stand 29 = .ok (.iaload, 1) := by decide +kernel
theorem dX0_stand_30 : decode cX0_stand 30 = .ok (.iconst 1, 1) := by decide +kernel
theorem dX0_stand_31 : decode cX0_stand 31 = .ok (.iadd, 1) := by decide +kernel
theorem dX0_stand_32 : decode cX0_stand 32 = .ok (.sipush 9999, 3) := by decide +kernel
theorem dX0_stand_35 : decode cX0_stand 35 = .ok (.invokestatic 109, 3) := by decide +kernel
theorem dX0_stand_38 : decode cX0_stand 38 = .ok (.iastore, 1) := by decide +kernel
theorem dX0_stand_39 : decode cX0_stand 39 = .ok (.aload_n 0, 1) := by decide +kernel
theorem dX0_stand_40 : decode cX0_stand 40 = .ok (.getfield 22, 3) := by decide +kernel
theorem dX0_stand_43 : decode cX0_stand 43 = .ok (.bipush 8, 2) := by decide +kernel
theorem dX0_stand_45 : decode cX0_stand 45 = .ok (.iload_n 1, 1) := by decide +kernel
theorem dX0_stand_46 : decode cX0_stand 46 = .ok (.iadd, 1) := by decide +kernel
theorem dX0_stand_47 : decode cX0_stand 47 = .ok (.aload_n 0, 1) := by decide +kernel
theorem dX0_stand_48 : decode cX0_stand 48 = .ok (.getfield 22, 3) := by decide +kernel
theorem dX0_stand_51 : decode cX0_stand 51 = .ok (.bipush 8, 2) := by decide +kernel
theorem dX0_stand_53 : decode cX0_stand 53 = .ok (.iload_n 1, 1) := by decide +kernel
theorem dX0_stand_54 : decode cX0_stand 54 = .ok (.iadd, 1) := by decide +kernel
theorem dX0_stand_55 : decode cX0_stand 55 = .ok (.iaload, 1) := by decide +kernel
theorem dX0_stand_56 : decode cX0_stand 56 = .ok (.iload_n 2, 1) := by decide +kernel
theorem dX0_stand_57 : decode cX0_stand 57 = .ok (.isub, 1) := by decide +kernel
theorem dX0_stand_58 : decode cX0_stand 58 = .ok (.iconst 0, 1) := by decide +kernel
theorem dX0_stand_59 : decode cX0_stand 59 = .ok (.invokestatic 75, 3) := by decide +kernel
theorem dX0_stand_62 : decode cX0_stand 62 = .ok (.iastore, 1) := by decide +kernel
theorem dX0_stand_63 : decode cX0_stand 63 = .ok (.return_, 1) := by decide +kernel
theorem dX0_sell_0 : decode cX0_sell 0 = .ok (.aload_n 0, 1) := by decide +kernel
theorem dX0_sell_1 : decode cX0_sell 1 = .ok (.aload_n 0, 1) := by decide +kernel
theorem dX0_sell_2 : decode cX0_sell 2 = .ok (.getfield 37, 3) := by decide +kernel
theorem dX0_sell_5 : decode cX0_sell 5 = .ok (.iload_n 1, 1) := by decide +kernel
theorem dX0_sell_6 : decode cX0_sell 6 = .ok (.iadd, 1) := by decide +kernel
theorem dX0_sell_7 : decode cX0_sell 7 = .ok (.iload_n 2, 1) := by decide +kernel
theorem dX0_sell_8 : decode cX0_sell 8 = .ok (.invokestatic 126, 3) := by decide +kernel
theorem dX0_sell_11 : decode cX0_sell 11 = .ok (.iadd, 1) := by decide +kernel
theorem dX0_sell_12 : decode cX0_sell 12 = .ok (.ldc 108, 2) := by decide +kernel
theorem dX0_sell_14 : decode cX0_sell 14 = .ok (.invokestatic 109, 3) := by decide +kernel
theorem dX0_sell_17 : decode cX0_sell 17 = .ok (.putfield 37, 3) := by decide +kernel
theorem dX0_sell_20 : decode cX0_sell 20 = .ok (.iload_n 2, 1) := by decide +kernel
theorem dX0_sell_21 : decode cX0_sell 21 = .ok (.ifCond .eq 4, 3) := by decide +kernel
theorem dX0_sell_24 : decode cX0_sell 24 = .ok (.return_, 1) := by decide +kernel
theorem dX0_sell_25 : decode cX0_sell 25 = .ok (.aload_n 0, 1) := by decide +kernel
theorem dX0_sell_26 : decode cX0_sell 26 = .ok (.aload_n 0, 1) := by decide +kernel
theorem dX0_sell_27 : decode cX0_sell 27 = .ok (.getfield 40, 3) := by decide +kernel
theorem dX0_sell_30 : decode cX0_sell 30 = .ok (.iconst 1, 1) := by decide +kernel
theorem dX0_sell_31 : decode cX0_sell 31 = .ok (.iadd, 1) := by decide +kernel
theorem dX0_sell_32 : decode cX0_sell 32 = .ok (.sipush 9999, 3) := by decide +kernel
theorem dX0_sell_35 : decode cX0_sell 35 = .ok (.invokestatic 109, 3) := by decide +kernel
theorem dX0_sell_38 : decode cX0_sell 38 = .ok (.putfield 40, 3) := by decide +kernel
theorem dX0_sell_41 : decode cX0_sell 41 = .ok (.iload_n 1, 1) := by decide +kernel
theorem dX0_sell_42 : decode cX0_sell 42 = .ok (.bipush 40, 2) := by decide +kernel
theorem dX0_sell_44 : decode cX0_sell 44 = .ok (.if_icmp .lt 19, 3) := by decide +kernel
theorem dX0_sell_47 : decode cX0_sell 47 = .ok (.aload_n 0, 1) := by decide +kernel
theorem dX0_sell_48 : decode cX0_sell 48 = .ok (.aload_n 0, 1) := by decide +kernel
theorem dX0_sell_49 : decode cX0_sell 49 = .ok (.getfield 43, 3) := by decide +kernel
theorem dX0_sell_52 : decode cX0_sell 52 = .ok (.iconst 1, 1) := by decide +kernel
theorem dX0_sell_53 : decode cX0_sell 53 = .ok (.iadd, 1) := by decide +kernel
theorem dX0_sell_54 : decode cX0_sell 54 = .ok (.sipush 9999, 3) := by decide +kernel
theorem dX0_sell_57 : decode cX0_sell 57 = .ok (.invokestatic 109, 3) := by decide +kernel
theorem dX0_sell_60 : decode cX0_sell 60 = .ok (.putfield 43, 3) := by decide +kernel
theorem dX0_sell_63 : decode cX0_sell 63 = .ok (.return_, 1) := by decide +kernel
theorem dX0_ageAll_0 : decode cX0_ageAll 0 = .ok (.iconst 0, 1) := by decide +kernel
theorem dX0_ageAll_1 : decode cX0_ageAll 1 = .ok (.istore_n 1, 1) := by decide +kernel
theorem dX0_ageAll_2 : decode cX0_ageAll 2 = .ok (.iload_n 1, 1) := by decide +kernel
theorem dX0_ageAll_3 : decode cX0_ageAll 3 = .ok (.aload_n 0, 1) := by decide +kernel
theorem dX0_ageAll_4 : decode cX0_ageAll 4 = .ok (.getfield 49, 3) := by decide +kernel
theorem dX0_ageAll_7 : decode cX0_ageAll 7 = .ok (.if_icmp .ge 34, 3) := by decide +kernel
theorem dX0_ageAll_10 : decode cX0_ageAll 10 = .ok (.aload_n 0, 1) := by decide +kernel
theorem dX0_ageAll_11 : decode cX0_ageAll 11 = .ok (.getfield 22, 3) := by decide +kernel
theorem dX0_ageAll_14 : decode cX0_ageAll 14 = .ok (.bipush 24, 2) := by decide +kernel
theorem dX0_ageAll_16 : decode cX0_ageAll 16 = .ok (.iload_n 1, 1) := by decide +kernel
theorem dX0_ageAll_17 : decode cX0_ageAll 17 = .ok (.iadd, 1) := by decide +kernel
theorem dX0_ageAll_18 : decode cX0_ageAll 18 = .ok (.aload_n 0, 1) := by decide +kernel
theorem dX0_ageAll_19 : decode cX0_ageAll 19 = .ok (.getfield 22, 3) := by decide +kernel
theorem dX0_ageAll_22 : decode cX0_ageAll 22 = .ok (.bipush 24, 2) := by decide +kernel
theorem dX0_ageAll_24 : decode cX0_ageAll 24 = .ok (.iload_n 1, 1) := by decide +kernel
theorem dX0_ageAll_25 : decode cX0_ageAll 25 = .ok (.iadd, 1) := by decide +kernel
theorem dX0_ageAll_26 : decode cX0_ageAll 26 = .ok (.iaload, 1) := by decide +kernel
theorem dX0_ageAll_27 : decode cX0_ageAll 27 = .ok (.iconst 1, 1) := by decide +kernel
theorem dX0_ageAll_28 : decode cX0_ageAll 28 = .ok (.iadd, 1) := by decide +kernel
theorem dX0_ageAll_29 : decode cX0_ageAll 29 = .ok (.bipush 99, 2) := by decide +kernel
theorem dX0_ageAll_31 : decode cX0_ageAll 31 = .ok (.invokestatic 109, 3) := by decide +kernel
theorem dX0_ageAll_34 : decode cX0_ageAll 34 = .ok (.iastore, 1) := by decide +kernel
theorem dX0_ageAll_35 : decode cX0_ageAll 35 = .ok (.iinc 1 1, 3) := by decide +kernel
theorem dX0_ageAll_38 : decode cX0_ageAll 38 = .ok (.goto (-36), 3) := by decide +kernel
theorem dX0_ageAll_41 : decode cX0_ageAll 41 = .ok (.return_, 1) := by decide +kernel
theorem dX0_sumOf_0 : decode cX0_sumOf 0 = .ok (.iconst 0, 1) := by decide +kernel
theorem dX0_sumOf_1 : decode cX0_sumOf 1 = .ok (.istore_n 2, 1) := by decide +kernel
theorem dX0_sumOf_2 : decode cX0_sumOf 2 = .ok (.iconst 0, 1) := by decide +kernel
theorem dX0_sumOf_3 : decode cX0_sumOf 3 = .ok (.istore_n 3, 1) := by decide +kernel
theorem dX0_sumOf_4 : decode cX0_sumOf 4 = .ok (.iload_n 3, 1) := by decide +kernel
theorem dX0_sumOf_5 : decode cX0_sumOf 5 = .ok (.aload_n 0, 1) := by decide +kernel
theorem dX0_sumOf_6 : decode cX0_sumOf 6 = .ok (.getfield 49, 3) := by decide +kernel
theorem dX0_sumOf_9 : decode cX0_sumOf 9 = .ok (.if_icmp .ge 20, 3) := by decide +kernel
theorem dX0_sumOf_12 : decode cX0_sumOf 12 = .ok (.iload_n 2, 1) := by decide +kernel
theorem dX0_sumOf_13 : decode cX0_sumOf 13 = .ok (.aload_n 0, 1) := by decide +kernel
theorem dX0_sumOf_14 : decode cX0_sumOf 14 = .ok (.getfield 22, 3) := by decide +kernel
theorem dX0_sumOf_17 : decode cX0_sumOf 17 = .ok (.iload_n 1, 1) := by decide +kernel
theorem dX0_sumOf_18 : decode cX0_sumOf 18 = .ok (.iload_n 3, 1) := by decide +kernel
theorem dX0_sumOf_19 : decode cX0_sumOf 19 = .ok (.iadd, 1) := by decide +kernel
theorem dX0_sumOf_20 : decode cX0_sumOf 20 = .ok (.iaload, 1) := by decide +kernel
theorem dX0_sumOf_21 : decode cX0_sumOf 21 = .ok (.iadd, 1) := by decide +kernel
theorem dX0_sumOf_22 : decode cX0_sumOf 22 = .ok (.istore_n 2, 1) := by decide +kernel
theorem dX0_sumOf_23 : decode cX0_sumOf 23 = .ok (.iinc 3 1, 3) := by decide +kernel
theorem dX0_sumOf_26 : decode cX0_sumOf 26 = .ok (.goto (-22), 3) := by decide +kernel
theorem dX0_sumOf_29 : decode cX0_sumOf 29 = .ok (.iload_n 2, 1) := by decide +kernel
theorem dX0_sumOf_30 : decode cX0_sumOf 30 = .ok (.ireturn, 1) := by decide +kernel
theorem dX0_widestTwo_0 : decode cX0_widestTwo 0 = .ok (.iconst (-1), 1) := by decide +kernel
theorem dX0_widestTwo_1 : decode cX0_widestTwo 1 = .ok (.istore_n 1, 1) := by decide +kernel
theorem dX0_widestTwo_2 : decode cX0_widestTwo 2 = .ok (.iconst (-1), 1) := by decide +kernel
theorem dX0_widestTwo_3 : decode cX0_widestTwo 3 = .ok (.istore_n 2, 1) := by decide +kernel
theorem dX0_widestTwo_4 : decode cX0_widestTwo 4 = .ok (.iconst 0, 1) := by decide +kernel
theorem dX0_widestTwo_5 : decode cX0_widestTwo 5 = .ok (.istore_n 3, 1) := by decide +kernel
theorem dX0_widestTwo_6 : decode cX0_widestTwo 6 = .ok (.iload_n 3, 1) := by decide +kernel
theorem dX0_widestTwo_7 : decode cX0_widestTwo 7 = .ok (.aload_n 0, 1) := by decide +kernel
theorem dX0_widestTwo_8 : decode cX0_widestTwo 8 = .ok (.getfield 49, 3) := by decide +kernel
theorem dX0_widestTwo_11 : decode cX0_widestTwo 11 = .ok (.if_icmp .ge 56, 3) := by decide +kernel
theorem dX0_widestTwo_14 : decode cX0_widestTwo 14 = .ok (.iload_n 3, 1) := by decide +kernel
theorem dX0_widestTwo_15 : decode cX0_widestTwo 15 = .ok (.iconst 1, 1) := by decide +kernel
theorem dX0_widestTwo_16 : decode cX0_widestTwo 16 = .ok (.iadd, 1) := by decide +kernel
theorem dX0_widestTwo_17 : decode cX0_widestTwo 17 = .ok (.istore 4, 2) := by decide +kernel
theorem dX0_widestTwo_19 : decode cX0_widestTwo 19 = .ok (.iload 4, 2) := by decide +kernel
theorem dX0_widestTwo_21 : decode cX0_widestTwo 21 = .ok (.aload_n 0, 1) := by decide +kernel
theorem dX0_widestTwo_22 : decode cX0_widestTwo 22 = .ok (.getfield 49, 3) := by decide +kernel
theorem dX0_widestTwo_25 : decode cX0_widestTwo 25 = .ok (.if_icmp .ge 36, 3) := by decide +kernel
theorem dX0_widestTwo_28 : decode cX0_widestTwo 28 = .ok (.aload_n 0, 1) := by decide +kernel
theorem dX0_widestTwo_29 : decode cX0_widestTwo 29 = .ok (.iload_n 3, 1) := by decide +kernel
theorem dX0_widestTwo_30 : decode cX0_widestTwo 30 = .ok (.iload 4, 2) := by decide +kernel
theorem dX0_widestTwo_32 : decode cX0_widestTwo 32 = .ok (.invokevirtual 84, 3) := by decide +kernel
theorem dX0_widestTwo_35 : decode cX0_widestTwo 35 = .ok (.iload_n 1, 1) := by decide +kernel
theorem dX0_widestTwo_36 : decode cX0_widestTwo 36 = .ok (.if_icmp .le 19, 3) := by decide +kernel
theorem dX0_widestTwo_39 : decode cX0_widestTwo 39 = .ok (.aload_n 0, 1) := by decide +kernel
theorem dX0_widestTwo_40 : decode cX0_widestTwo 40 = .ok (.iload_n 3, 1) := by decide +kernel
theorem dX0_widestTwo_41 : decode cX0_widestTwo 41 = .ok (.iload 4, 2) := by decide +kernel
theorem dX0_widestTwo_43 : decode cX0_widestTwo 43 = .ok (.invokevirtual 84, 3) := by decide +kernel
theorem dX0_widestTwo_46 : decode cX0_widestTwo 46 = .ok (.istore_n 1, 1) := by decide +kernel
theorem dX0_widestTwo_47 : decode cX0_widestTwo 47 = .ok (.bipush 8, 2) := by decide +kernel
theorem dX0_widestTwo_49 : decode cX0_widestTwo 49 = .ok (.iload_n 3, 1) := by decide +kernel
theorem dX0_widestTwo_50 : decode cX0_widestTwo 50 = .ok (.imul, 1) := by decide +kernel
theorem dX0_widestTwo_51 : decode cX0_widestTwo 51 = .ok (.iload 4, 2) := by decide +kernel
theorem dX0_widestTwo_53 : decode cX0_widestTwo 53 = .ok (.iadd, 1) := by decide +kernel
theorem dX0_widestTwo_54 : decode cX0_widestTwo 54 = .ok (.istore_n 2, 1) := by decide +kernel
theorem dX0_widestTwo_55 : decode cX0_widestTwo 55 = .ok (.iinc 4 1, 3) := by decide +kernel
theorem dX0_widestTwo_58 : decode cX0_widestTwo 58 = .ok (.goto (-39), 3) := by decide +kernel
theorem dX0_widestTwo_61 : decode cX0_widestTwo 61 = .ok (.iinc 3 1, 3) := by decide +kernel
theorem dX0_widestTwo_64 : decode cX0_widestTwo 64 = .ok (.goto (-58), 3) := by decide +kernel
theorem dX0_widestTwo_67 : decode cX0_widestTwo 67 = .ok (.iload_n 2, 1) := by decide +kernel
theorem dX0_widestTwo_68 : decode cX0_widestTwo 68 = .ok (.ireturn, 1) := by decide +kernel
theorem dX0_reconcileSet_0 : decode cX0_reconcileSet 0 = .ok (.iconst 0, 1) := by decide +kernel
theorem dX0_reconcileSet_1 : decode cX0_reconcileSet 1 = .ok (.istore_n 2, 1) := by decide +kernel
theorem dX0_reconcileSet_2 : decode cX0_reconcileSet 2 = .ok (.iload_n 2, 1) := by decide +kernel
theorem dX0_reconcileSet_3 : decode cX0_reconcileSet 3 = .ok (.aload_n 0, 1) := by decide +kernel
theorem dX0_reconcileSet_4 : decode cX0_reconcileSet 4 = .ok (.getfield 49, 3) := by decide +kernel
theorem dX0_reconcileSet_7 : decode cX0_reconcileSet 7 = .ok (.if_icmp .ge 52, 3) := by decide +kernel
theorem dX0_reconcileSet_10 : decode cX0_reconcileSet 10 = .ok (.iload_n 2, 1) := by decide +kernel
theorem dX0_reconcileSet_11 : decode cX0_reconcileSet 11 = .ok (.iconst 1, 1) := by decide +kernel
theorem dX0_reconcileSet_12 : decode cX0_reconcileSet 12 = .ok (.iadd, 1) := by decide +kernel
theorem dX0_reconcileSet_13 : decode cX0_reconcileSet 13 = .ok (.istore_n 3, 1) := by decide +kernel
theorem dX0_reconcileSet_14 : decode cX0_reconcileSet 14 = .ok (.iload_n 3, 1) := by decide +kernel
theorem dX0_reconcileSet_15 : decode cX0_reconcileSet 15 = .ok (.aload_n 0, 1) := by decide +kernel
theorem dX0_reconcileSet_16 : decode cX0_reconcileSet 16 = .ok (.getfield 49, 3) := by decide +kernel
theorem dX0_reconcileSet_19 : decode cX0_reconcileSet 19 = .ok (.if_icmp .ge 34, 3) := by decide +kernel
theorem dX0_reconcileSet_22 : decode cX0_reconcileSet 22 = .ok (.iload_n 1, 1) := by decide +kernel
theorem dX0_reconcileSet_23 : decode cX0_reconcileSet 23 = .ok (.iload_n 2, 1) := by decide +kernel
theorem dX0_reconcileSet_24 : decode cX0_reconcileSet 24 = .ok (.ishr, 1) := by decide +kernel
theorem dX0_reconcileSet_25 : decode cX0_reconcileSet 25 = .ok (.iconst 1, 1) := by decide +kernel
theorem dX0_reconcileSet_26 : decode cX0_reconcileSet 26 = .ok (.iand, 1) := by decide +kernel
theorem dX0_reconcileSet_27 : decode cX0_reconcileSet 27 = .ok (.iconst 1, 1) := by decide +kernel
theorem dX0_reconcileSet_28 : decode cX0_reconcileSet 28 = .ok (.if_icmp .ne 19, 3) := by decide +kernel
theorem dX0_reconcileSet_31 : decode cX0_reconcileSet 31 = .ok (.iload_n 1, 1) := by decide +kernel
theorem dX0_reconcileSet_32 : decode cX0_reconcileSet 32 = .ok (.iload_n 3, 1) := by decide +kernel
theorem dX0_reconcileSet_33 : decode cX0_reconcileSet 33 = .ok (.ishr, 1) := by decide +kernel
theorem dX0_reconcileSet_34 : decode cX0_reconcileSet 34 = .ok (.iconst 1, 1) := by decide +kernel
theorem dX0_reconcileSet_35 : decode cX0_reconcileSet 35 = .ok (.iand, 1) := by decide +kernel
theorem dX0_reconcileSet_36 : decode cX0_reconcileSet 36 = .ok (.iconst 1, 1) := by decide +kernel
theorem dX0_reconcileSet_37 : decode cX0_reconcileSet 37 = .ok (.if_icmp .ne 10, 3) := by decide +kernel
theorem dX0_reconcileSet_40 : decode cX0_reconcileSet 40 = .ok (.aload_n 0, 1) := by decide +kernel
theorem dX0_reconcileSet_41 : decode cX0_reconcileSet 41 = .ok (.iload_n 2, 1) := by decide +kernel
theorem dX0_reconcileSet_42 : decode cX0_reconcileSet 42 = .ok (.iload_n 3, 1) := by decide +kernel
theorem dX0_reconcileSet_43 : decode cX0_reconcileSet 43 = .ok (.iconst 0, 1) := by decide +kernel
theorem dX0_reconcileSet_44 : decode cX0_reconcileSet 44 = .ok (.invokevirtual 122, 3) := by decide +kernel
theorem dX0_reconcileSet_47 : decode cX0_reconcileSet 47 = .ok (.iinc 3 1, 3) := by decide +kernel
theorem dX0_reconcileSet_50 : decode cX0_reconcileSet 50 = .ok (.goto (-36), 3) := by decide +kernel
theorem dX0_reconcileSet_53 : decode cX0_reconcileSet 53 = .ok (.iinc 2 1, 3) := by decide +kernel
theorem dX0_reconcileSet_56 : decode cX0_reconcileSet 56 = .ok (.goto (-54), 3) := by decide +kernel
theorem dX0_reconcileSet_59 : decode cX0_reconcileSet 59 = .ok (.return_, 1) := by decide +kernel
theorem dX0_drawMarket_0 : decode cX0_drawMarket 0 = .ok (.aload_n 0, 1) := by decide +kernel
theorem dX0_drawMarket_1 : decode cX0_drawMarket 1 = .ok (.invokevirtual 129, 3) := by decide +kernel
theorem dX0_drawMarket_4 : decode cX0_drawMarket 4 = .ok (.bipush 8, 2) := by decide +kernel
theorem dX0_drawMarket_6 : decode cX0_drawMarket 6 = .ok (.irem, 1) := by decide +kernel
theorem dX0_drawMarket_7 : decode cX0_drawMarket 7 = .ok (.istore_n 1, 1) := by decide +kernel
theorem dX0_drawMarket_8 : decode cX0_drawMarket 8 = .ok (.aload_n 0, 1) := by decide +kernel
theorem dX0_drawMarket_9 : decode cX0_drawMarket 9 = .ok (.invokevirtual 129, 3) := by decide +kernel
theorem dX0_drawMarket_12 : decode cX0_drawMarket 12 = .ok (.bipush 8, 2) := by decide +kernel
theorem dX0_drawMarket_14 : decode cX0_drawMarket 14 = .ok (.irem, 1) := by decide +kernel
theorem dX0_drawMarket_15 : decode cX0_drawMarket 15 = .ok (.istore_n 2, 1) := by decide +kernel
theorem dX0_drawMarket_16 : decode cX0_drawMarket 16 = .ok (.aload_n 0, 1) := by decide +kernel
theorem dX0_drawMarket_17 : decode cX0_drawMarket 17 = .ok (.getfield 18, 3) := by decide +kernel
theorem dX0_drawMarket_20 : decode cX0_drawMarket 20 = .ok (.aload_n 0, 1) := by decide +kernel
theorem dX0_drawMarket_21 : decode cX0_drawMarket 21 = .ok (.getfield 46, 3) := by decide +kernel
theorem dX0_drawMarket_24 : decode cX0_drawMarket 24 = .ok (.bipush 6, 2) := by decide +kernel
theorem dX0_drawMarket_26 : decode cX0_drawMarket 26 = .ok (.irem, 1) := by decide +kernel
theorem dX0_drawMarket_27 : decode cX0_drawMarket 27 = .ok (.bipush 10, 2) := by decide +kernel
theorem dX0_drawMarket_29 : decode cX0_drawMarket 29 = .ok (.iload_n 1, 1) := by decide +kernel
theorem dX0_drawMarket_30 : decode cX0_drawMarket 30 = .ok (.imul, 1) := by decide +kernel
theorem dX0_drawMarket_31 : decode cX0_drawMarket 31 = .ok (.iload_n 2, 1) := by decide +kernel
theorem dX0_drawMarket_32 : decode cX0_drawMarket 32 = .ok (.iadd, 1) := by decide +kernel
theorem dX0_drawMarket_33 : decode cX0_drawMarket 33 = .ok (.iastore, 1) := by decide +kernel
theorem dX0_drawMarket_34 : decode cX0_drawMarket 34 = .ok (.aload_n 0, 1) := by decide +kernel
theorem dX0_drawMarket_35 : decode cX0_drawMarket 35 = .ok (.iconst 1, 1) := by decide +kernel
theorem dX0_drawMarket_36 : decode cX0_drawMarket 36 = .ok (.aload_n 0, 1) := by decide +kernel
theorem dX0_drawMarket_37 : decode cX0_drawMarket 37 = .ok (.invokevirtual 129, 3) := by decide +kernel
theorem dX0_drawMarket_40 : decode cX0_drawMarket 40 = .ok (.bipush 20, 2) := by decide +kernel
theorem dX0_drawMarket_42 : decode cX0_drawMarket 42 = .ok (.irem, 1) := by decide +kernel
theorem dX0_drawMarket_43 : decode cX0_drawMarket 43 = .ok (.iadd, 1) := by decide +kernel
theorem dX0_drawMarket_44 : decode cX0_drawMarket 44 = .ok (.putfield 9, 3) := by decide +kernel
theorem dX0_drawMarket_47 : decode cX0_drawMarket 47 = .ok (.return_, 1) := by decide +kernel
theorem dX0_draw_0 : decode cX0_draw 0 = .ok (.aload_n 0, 1) := by decide +kernel
theorem dX0_draw_1 : decode cX0_draw 1 = .ok (.aload_n 0, 1) := by decide +kernel
theorem dX0_draw_2 : decode cX0_draw 2 = .ok (.getfield 15, 3) := by decide +kernel
theorem dX0_draw_5 : decode cX0_draw 5 = .ok (.ldc 133, 2) := by decide +kernel
theorem dX0_draw_7 : decode cX0_draw 7 = .ok (.imul, 1) := by decide +kernel
theorem dX0_draw_8 : decode cX0_draw 8 = .ok (.sipush 12345, 3) := by decide +kernel
theorem dX0_draw_11 : decode cX0_draw 11 = .ok (.iadd, 1) := by decide +kernel
theorem dX0_draw_12 : decode cX0_draw 12 = .ok (.putfield 15, 3) := by decide +kernel
theorem dX0_draw_15 : decode cX0_draw 15 = .ok (.aload_n 0, 1) := by decide +kernel
theorem dX0_draw_16 : decode cX0_draw 16 = .ok (.getfield 15, 3) := by decide +kernel
theorem dX0_draw_19 : decode cX0_draw 19 = .ok (.bipush 8, 2) := by decide +kernel
theorem dX0_draw_21 : decode cX0_draw 21 = .ok (.iushr, 1) := by decide +kernel
theorem dX0_draw_22 : decode cX0_draw 22 = .ok (.ireturn, 1) := by decide +kernel
theorem dX0_spotsHeld_0 : decode cX0_spotsHeld 0 = .ok (.iconst 0, 1) := by decide +kernel
theorem dX0_spotsHeld_1 : decode cX0_spotsHeld 1 = .ok (.istore_n 1, 1) := by decide +kernel
theorem dX0_spotsHeld_2 : decode cX0_spotsHeld 2 = .ok (.iconst 0, 1) := by decide +kernel
theorem dX0_spotsHeld_3 : decode cX0_spotsHeld 3 = .ok (.istore_n 2, 1) := by decide +kernel
theorem dX0_spotsHeld_4 : decode cX0_spotsHeld 4 = .ok (.iload_n 2, 1) := by decide +kernel
theorem dX0_spotsHeld_5 : decode cX0_spotsHeld 5 = .ok (.bipush 10, 2) := by decide +kernel
theorem dX0_spotsHeld_7 : decode cX0_spotsHeld 7 = .ok (.if_icmp .ge 22, 3) := by decide +kernel
theorem dX0_spotsHeld_10 : decode cX0_spotsHeld 10 = .ok (.aload_n 0, 1) := by decide +kernel
theorem dX0_spotsHeld_11 : decode cX0_spotsHeld 11 = .ok (.getfield 28, 3) := by decide +kernel
theorem dX0_spotsHeld_14 : decode cX0_spotsHeld 14 = .ok (.iload_n 2, 1) := by decide +kernel
theorem dX0_spotsHeld_15 : decode cX0_spotsHeld 15 = .ok (.iaload, 1) := by decide +kernel
theorem dX0_spotsHeld_16 : decode cX0_spotsHeld 16 = .ok (.iconst (-1), 1) := by decide +kernel
theorem dX0_spotsHeld_17 : decode cX0_spotsHeld 17 = .ok (.if_icmp .eq 6, 3) := by decide +kernel
theorem dX0_spotsHeld_20 : decode cX0_spotsHeld 20 = .ok (.iinc 1 1, 3) := by decide +kernel
theorem dX0_spotsHeld_23 : decode cX0_spotsHeld 23 = .ok (.iinc 2 1, 3) := by decide +kernel
theorem dX0_spotsHeld_26 : decode cX0_spotsHeld 26 = .ok (.goto (-22), 3) := by decide +kernel
theorem dX0_spotsHeld_29 : decode cX0_spotsHeld 29 = .ok (.iload_n 1, 1) := by decide +kernel
theorem dX0_spotsHeld_30 : decode cX0_spotsHeld 30 = .ok (.ireturn, 1) := by decide +kernel
theorem dX1_init_0 : decode cX1_init 0 = .ok (.aload_n 0, 1) := by decide +kernel
theorem dX1_init_1 : decode cX1_init 1 = .ok (.invokespecial 3, 3) := by decide +kernel
theorem dX1_init_4 : decode cX1_init 4 = .ok (.aload_n 0, 1) := by decide +kernel
theorem dX1_init_5 : decode cX1_init 5 = .ok (.aload_n 1, 1) := by decide +kernel
theorem dX1_init_6 : decode cX1_init 6 = .ok (.putfield 9, 3) := by decide +kernel
theorem dX1_init_9 : decode cX1_init 9 = .ok (.aload_n 0, 1) := by decide +kernel
theorem dX1_init_10 : decode cX1_init 10 = .ok (.aload_n 2, 1) := by decide +kernel
theorem dX1_init_11 : decode cX1_init 11 = .ok (.putfield 15, 3) := by decide +kernel
theorem dX1_init_14 : decode cX1_init 14 = .ok (.aload_n 0, 1) := by decide +kernel
theorem dX1_init_15 : decode cX1_init 15 = .ok (.bipush 121, 2) := by decide +kernel
theorem dX1_init_17 : decode cX1_init 17 = .ok (.newarray .int, 2) := by decide +kernel
theorem dX1_init_19 : decode cX1_init 19 = .ok (.putfield 19, 3) := by decide +kernel
theorem dX1_init_22 : decode cX1_init 22 = .ok (.aload_n 0, 1) := by decide +kernel
theorem dX1_init_23 : decode cX1_init 23 = .ok (.bipush 121, 2) := by decide +kernel
theorem dX1_init_25 : decode cX1_init 25 = .ok (.newarray .int, 2) := by decide +kernel
theorem dX1_init_27 : decode cX1_init 27 = .ok (.putfield 23, 3) := by decide +kernel
theorem dX1_init_30 : decode cX1_init 30 = .ok (.return_, 1) := by decide +kernel
theorem dX1_hasFault_0 : decode cX1_hasFault 0 = .ok (.aload_n 0, 1) := by decide +kernel
theorem dX1_hasFault_1 : decode cX1_hasFault 1 = .ok (.getfield 26, 3) := by decide +kernel
theorem dX1_hasFault_4 : decode cX1_hasFault 4 = .ok (.iconst (-1), 1) := by decide +kernel
theorem dX1_hasFault_5 : decode cX1_hasFault 5 = .ok (.if_icmp .eq 7, 3) := by decide +kernel
theorem dX1_hasFault_8 : decode cX1_hasFault 8 = .ok (.iconst 1, 1) := by decide +kernel
theorem dX1_hasFault_9 : decode cX1_hasFault 9 = .ok (.goto 4, 3) := by decide +kernel
theorem dX1_hasFault_12 : decode cX1_hasFault 12 = .ok (.iconst 0, 1) := by decide +kernel
theorem dX1_hasFault_13 : decode cX1_hasFault 13 = .ok (.ireturn, 1) := by decide +kernel
theorem dX1_splitTape_0 : decode cX1_splitTape 0 = .ok (.iconst 0, 1) := by decide +kernel
theorem dX1_splitTape_1 : decode cX1_splitTape 1 = .ok (.istore_n 1, 1) := by decide +kernel
theorem dX1_splitTape_2 : decode cX1_splitTape 2 = .ok (.iconst 0, 1) := by decide +kernel
theorem dX1_splitTape_3 : decode cX1_splitTape 3 = .ok (.istore_n 2, 1) := by decide +kernel
theorem dX1_splitTape_4 : decode cX1_splitTape 4 = .ok (.iload_n 2, 1) := by decide +kernel
theorem dX1_splitTape_5 : decode cX1_splitTape 5 = .ok (.aload_n 0, 1) := by decide +kernel
theorem dX1_splitTape_6 : decode cX1_splitTape 6 = .ok (.getfield 9, 3) := by decide +kernel
theorem dX1_splitTape_9 : decode cX1_splitTape 9 = .ok (.getfield 30, 3) := by decide +kernel
theorem dX1_splitTape_12 : decode cX1_splitTape 12 = .ok (.if_icmp .ge 52, 3) := by decide +kernel
theorem dX1_splitTape_15 : decode cX1_splitTape 15 = .ok (.aload_n 0, 1) := by decide +kernel
theorem dX1_splitTape_16 : decode cX1_splitTape 16 = .ok (.getfield 9, 3) := by decide +kernel
theorem dX1_splitTape_19 : decode cX1_splitTape 19 = .ok (.getfield 35, 3) := by decide +kernel
theorem dX1_splitTape_22 : decode cX1_splitTape 22 = .ok (.iload_n 2, 1) := by decide +kernel
theorem dX1_splitTape_23 : decode cX1_splitTape 23 = .ok (.iaload, 1) := by decide +kernel
theorem dX1_splitTape_24 : decode cX1_splitTape 24 = .ok (.bipush 32, 2) := by decide +kernel
theorem dX1_splitTape_26 : decode cX1_splitTape 26 = .ok (.if_icmp .eq 32, 3) := by decide +kernel
theorem dX1_splitTape_29 : decode cX1_splitTape 29 = .ok (.aload_n 0, 1) := by decide +kernel
theorem dX1_splitTape_30 : decode cX1_splitTape 30 = .ok (.iload_n 2, 1) := by decide +kernel
theorem dX1_splitTape_31 : decode cX1_splitTape 31 = .ok (.invokevirtual 38, 3) := by decide +kernel
theorem dX1_splitTape_34 : decode cX1_splitTape 34 = .ok (.ifCond .ne 24, 3) := by decide +kernel
theorem dX1_splitTape_37 : decode cX1_splitTape 37 = .ok (.aload_n 0, 1) := by decide +kernel
theorem dX1_splitTape_38 : decode cX1_splitTape 38 = .ok (.getfield 19, 3) := by decide +kernel
theorem dX1_splitTape_41 : decode cX1_splitTape 41 = .ok (.iload_n 1, 1) := by decide +kernel
theorem dX1_splitTape_42 : decode cX1_splitTape 42 = .ok (.aload_n 0, 1) := by decide +kernel
theorem dX1_splitTape_43 : decode cX1_splitTape 43 = .ok (.iload_n 2, 1) := by decide +kernel
theorem dX1_splitTape_44 : decode cX1_splitTape 44 = .ok (.invokevirtual 42, 3) := by decide +kernel
theorem dX1_splitTape_47 : decode cX1_splitTape 47 = .ok (.iastore, 1) := by decide +kernel
theorem dX1_splitTape_48 : decode cX1_splitTape 48 = .ok (.aload_n 0, 1) := by decide +kernel
theorem dX1_splitTape_49 : decode cX1_splitTape 49 = .ok (.getfield 23, 3) := by decide +kernel
theorem dX1_splitTape_52 : decode cX1_splitTape 52 = .ok (.iload_n 1, 1) := by decide +kernel
theorem dX1_splitTape_53 : decode cX1_splitTape 53 = .ok (.iload_n 2, 1) := by decide +kernel
theorem dX1_splitTape_54 : decode cX1_splitTape 54 = .ok (.iastore, 1) := by decide +kernel
theorem dX1_splitTape_55 : decode cX1_splitTape 55 = .ok (.iinc 1 1, 3) := by decide +kernel
theorem dX1_splitTape_58 : decode cX1_splitTape 58 = .ok (.iinc 2 1, 3) := by decide +kernel
theorem dX1_splitTape_61 : decode cX1_splitTape 61 = .ok (.goto (-57), 3) := by decide +kernel
theorem dX1_splitTape_64 : decode cX1_splitTape 64 = .ok (.aload_n 0, 1) := by decide +kernel
theorem dX1_splitTape_65 : decode cX1_splitTape 65 = .ok (.getfield 19, 3) := by decide +kernel
theorem dX1_splitTape_68 : decode cX1_splitTape 68 = .ok (.iload_n 1, 1) := by decide +kernel
theorem dX1_splitTape_69 : decode cX1_splitTape 69 = .ok (.iconst (-1), 1) := by decide +kernel
theorem dX1_splitTape_70 : decode cX1_splitTape 70 = .ok (.iastore, 1) := by decide +kernel
theorem dX1_splitTape_71 : decode cX1_splitTape 71 = .ok (.aload_n 0, 1) := by decide +kernel
theorem dX1_splitTape_72 : decode cX1_splitTape 72 = .ok (.getfield 23, 3) := by decide +kernel
theorem dX1_splitTape_75 : decode cX1_splitTape 75 = .ok (.iload_n 1, 1) := by decide +kernel
theorem dX1_splitTape_76 : decode cX1_splitTape 76 = .ok (.aload_n 0, 1) := by decide +kernel
theorem dX1_splitTape_77 : decode cX1_splitTape 77 = .ok (.getfield 9, 3) := by decide +kernel
theorem dX1_splitTape_80 : decode cX1_splitTape 80 = .ok (.getfield 30, 3) := by decide +kernel
theorem dX1_splitTape_83 : decode cX1_splitTape 83 = .ok (.iastore, 1) := by decide +kernel
theorem dX1_splitTape_84 : decode cX1_splitTape 84 = .ok (.return_, 1) := by decide +kernel
theorem dX1_readItems_0 : decode cX1_readItems 0 = .ok (.aload_n 0, 1) := by decide +kernel
theorem dX1_readItems_1 : decode cX1_readItems 1 = .ok (.iconst (-1), 1) := by decide +kernel
theorem dX1_readItems_2 : decode cX1_readItems 2 = .ok (.putfield 26, 3) := by decide +kernel
theorem dX1_readItems_5 : decode cX1_readItems 5 = .ok (.aload_n 0, 1) := by decide +kernel
theorem dX1_readItems_6 : decode cX1_readItems 6 = .ok (.iconst 0, 1) := by decide +kernel
theorem dX1_readItems_7 : decode cX1_readItems 7 = .ok (.putfield 46, 3) := by decide +kernel
theorem dX1_readItems_10 : decode cX1_readItems 10 = .ok (.iconst 0, 1) := by decide +kernel
theorem dX1_readItems_11 : decode cX1_readItems 11 = .ok (.istore_n 1, 1) := by decide +kernel
theorem dX1_readItems_12 : decode cX1_readItems 12 = .ok (.iload_n 1, 1) := by decide +kernel
theorem dX1_readItems_13 : decode cX1_readItems 13 = .ok (.bipush 120, 2) := by decide +kernel
theorem dX1_readItems_15 : decode cX1_readItems 15 = .ok (.if_icmp .ge 42, 3) := by decide +kernel
theorem dX1_readItems_18 : decode cX1_readItems 18 = .ok (.aload_n 0, 1) := by decide +kernel
theorem dX1_readItems_19 : decode cX1_readItems 19 = .ok (.invokevirtual 49, 3) := by decide +kernel
theorem dX1_readItems_22 : decode cX1_readItems 22 = .ok (.ifCond .ne 35, 3) := by decide +kernel
theorem dX1_readItems_25 : decode cX1_readItems 25 = .ok (.aload_n 0, 1) := by decide +kernel
theorem dX1_readItems_26 : decode cX1_readItems 26 = .ok (.invokevirtual 53, 3) := by decide +kernel
theorem dX1_readItems_29 : decode cX1_readItems 29 = .ok (.iinc 1 1, 3) := by decide +kernel
theorem dX1_readItems_32 : decode cX1_readItems 32 = .ok (.aload_n 0, 1) := by decide +kernel
theorem dX1_readItems_33 : decode cX1_readItems 33 = .ok (.getfield 19, 3) := by decide +kernel
theorem dX1_readItems_36 : decode cX1_readItems 36 = .ok (.aload_n 0, 1) := by decide +kernel
theorem dX1_readItems_37 : decode cX1_readItems 37 = .ok (.getfield 46, 3) := by decide +kernel
theorem dX1_readItems_40 : decode cX1_readItems 40 = .ok (.iaload, 1) := by decide +kernel
theorem dX1_readItems_41 : decode cX1_readItems 41 = .ok (.iconst (-1), 1) := by decide +kernel
theorem dX1_readItems_42 : decode cX1_readItems 42 = .ok (.if_icmp .ne 6, 3) := by decide +kernel
theorem dX1_readItems_45 : decode cX1_readItems 45 = .ok (.goto 12, 3) := by decide +kernel
theorem dX1_readItems_48 : decode cX1_readItems 48 = .ok (.aload_n 0, 1) := by decide +kernel
theorem dX1_readItems_49 : decode cX1_readItems 49 = .ok (.bipush (-2), 2) := by decide +kernel
theorem dX1_readItems_51 : decode cX1_readItems 51 = .ok (.invokevirtual 56, 3) := by decide +kernel
theorem dX1_readItems_54 : decode cX1_readItems 54 = .ok (.goto (-42), 3) := by decide +kernel
theorem dX1_readItems_57 : decode cX1_readItems 57 = .ok (.iload_n 1, 1) := by decide +kernel
theorem dX1_readItems_58 : decode cX1_readItems 58 = .ok (.ireturn, 1) := by decide +kernel
theorem dX1_readItem_0 : decode cX1_readItem 0 = .ok (.bipush (-10), 2) := by decide +kernel
theorem dX1_readItem_2 : decode cX1_readItem 2 = .ok (.aload_n 0, 1) := by decide +kernel
theorem dX1_readItem_3 : decode cX1_readItem 3 = .ok (.getfield 19, 3) := by decide +kernel
theorem dX1_readItem_6 : decode cX1_readItem 6 = .ok (.aload_n 0, 1) := by decide +kernel
theorem dX1_readItem_7 : decode cX1_readItem 7 = .ok (.getfield 46, 3) := by decide +kernel
theorem dX1_readItem_10 : decode cX1_readItem 10 = .ok (.iaload, 1) := by decide +kernel
theorem dX1_readItem_11 : decode cX1_readItem 11 = .ok (.isub, 1) := by decide +kernel
theorem dX1_readItem_12 : decode cX1_readItem 12 = .ok (.istore_n 1, 1) := by decide +kernel
theorem dX1_readItem_13 : decode cX1_readItem 13 = .ok (.iload_n 1, 1) := by decide +kernel
theorem dX1_readItem_14 : decode cX1_readItem 14 = .ok (.iconst 0, 1) := by decide +kernel
theorem dX1_readItem_15 : decode cX1_readItem 15 = .ok (.bipush 6, 2) := by decide +kernel
theorem dX1_readItem_17 : decode cX1_readItem 17 = .ok (.invokestatic 60, 3) := by decide +kernel
theorem dX1_readItem_20 : decode cX1_readItem 20 = .ok (.ifCond .eq 11, 3) := by decide +kernel
theorem dX1_readItem_23 : decode cX1_readItem 23 = .ok (.aload_n 0, 1) := by decide +kernel
theorem dX1_readItem_24 : decode cX1_readItem 24 = .ok (.iload_n 1, 1) := by decide +kernel
theorem dX1_readItem_25 : decode cX1_readItem 25 = .ok (.invokevirtual 64, 3) := by decide +kernel
theorem dX1_readItem_28 : decode cX1_readItem 28 = .ok (.goto 46, 3) := by decide +kernel
theorem dX1_readItem_31 : decode cX1_readItem 31 = .ok (.iload_n 1, 1) := by decide +kernel
theorem dX1_readItem_32 : decode cX1_readItem 32 = .ok (.bipush 7, 2) := by decide +kernel
theorem dX1_readItem_34 : decode cX1_readItem 34 = .ok (.if_icmp .ne 10, 3) := by decide +kernel
theorem dX1_readItem_37 : decode cX1_readItem 37 = .ok (.aload_n 0, 1) := by decide +kernel
theorem dX1_readItem_38 : decode cX1_readItem 38 = .ok (.invokevirtual 67, 3) := by decide +kernel
theorem dX1_readItem_41 : decode cX1_readItem 41 = .ok (.goto 33, 3) := by decide +kernel
theorem dX1_readItem_44 : decode cX1_readItem 44 = .ok (.iload_n 1, 1) := by decide +kernel
theorem dX1_readItem_45 : decode cX1_readItem 45 = .ok (.bipush 8, 2) := by decide +kernel
theorem dX1_readItem_47 : decode cX1_readItem 47 = .ok (.if_icmp .ne 10, 3) := by decide +kernel
theorem dX1_readItem_50 : decode cX1_readItem 50 = .ok (.aload_n 0, 1) := by decide +kernel
theorem dX1_readItem_51 : decode cX1_readItem 51 = .ok (.invokevirtual 70, 3) := by decide +kernel
theorem dX1_readItem_54 : decode cX1_readItem 54 = .ok (.goto 20, 3) := by decide +kernel
theorem dX1_readItem_57 : decode cX1_readItem 57 = .ok (.iload_n 1, 1) := by decide +kernel
theorem dX1_readItem_58 : decode cX1_readItem 58 = .ok (.bipush 9, 2) := by decide +kernel
theorem dX1_readItem_60 : decode cX1_readItem 60 = .ok (.if_icmp .ne 10, 3) := by decide +kernel
theorem dX1_readItem_63 : decode cX1_readItem 63 = .ok (.aload_n 0, 1) := by decide +kernel
theorem dX1_readItem_64 : decode cX1_readItem 64 = .ok (.invokevirtual 73, 3) := by decide +kernel
theorem dX1_readItem_67 : decode cX1_readItem 67 = .ok (.goto 7, 3) := by decide +kernel
theorem dX1_readItem_70 : decode cX1_readItem 70 = .ok (.aload_n 0, 1) := by decide +kernel
theorem dX1_readItem_71 : decode cX1_readItem 71 = .ok (.invokevirtual 76, 3) := by decide +kernel
theorem dX1_readItem_74 : decode cX1_readItem 74 = .ok (.return_, 1) := by decide +kernel
theorem dX1_readPotter_0 : decode cX1_readPotter 0 = .ok (.aload_n 0, 1) := by decide +kernel
theorem dX1_readPotter_1 : decode cX1_readPotter 1 = .ok (.getfield 15, 3) := by decide +kernel
theorem dX1_readPotter_4 : decode cX1_readPotter 4 = .ok (.invokevirtual 79, 3) := by decide +kernel
theorem dX1_readPotter_7 : decode cX1_readPotter 7 = .ok (.ifCond .eq 8, 3) := by decide +kernel
theorem dX1_readPotter_10 : decode cX1_readPotter 10 = .ok (.aload_n 0, 1) := by decide +kernel
theorem dX1_readPotter_11 : decode cX1_readPotter 11 = .ok (.invokevirtual 76, 3) := by decide +kernel
theorem dX1_readPotter_14 : decode cX1_readPotter 14 = .ok (.return_, 1) := by decide +kernel
theorem dX1_readPotter_15 : decode cX1_readPotter 15 = .ok (.aload_n 0, 1) := by decide +kernel
theorem dX1_readPotter_16 : decode cX1_readPotter 16 = .ok (.invokevirtual 84, 3) := by decide +kernel
theorem dX1_readPotter_19 : decode cX1_readPotter 19 = .ok (.aload_n 0, 1) := by decide +kernel
theorem dX1_readPotter_20 : decode cX1_readPotter 20 = .ok (.bipush 10, 2) := by decide +kernel
theorem dX1_readPotter_22 : decode cX1_readPotter 22 = .ok (.bipush 30, 2) := by decide +kernel
theorem dX1_readPotter_24 : decode cX1_readPotter 24 = .ok (.invokevirtual 87, 3) := by decide +kernel
theorem dX1_readPotter_27 : decode cX1_readPotter 27 = .ok (.istore_n 2, 1) := by decide +kernel
theorem dX1_readPotter_28 : decode cX1_readPotter 28 = .ok (.aload_n 0, 1) := by decide +kernel
theorem dX1_readPotter_29 : decode cX1_readPotter 29 = .ok (.bipush 11, 2) := by decide +kernel
theorem dX1_readPotter_31 : decode cX1_readPotter 31 = .ok (.bipush 20, 2) := by decide +kernel
theorem dX1_readPotter_33 : decode cX1_readPotter 33 = .ok (.invokevirtual 87, 3) := by decide +kernel
theorem dX1_readPotter_36 : decode cX1_readPotter 36 = .ok (.istore_n 3, 1) := by decide +kernel
theorem dX1_readPotter_37 : decode cX1_readPotter 37 = .ok (.aload_n 0, 1) := by decide +kernel
theorem dX1_readPotter_38 : decode cX1_readPotter 38 = .ok (.bipush 12, 2) := by decide +kernel
theorem dX1_readPotter_40 : decode cX1_readPotter 40 = .ok (.iconst 0, 1) := by decide +kernel
theorem dX1_readPotter_41 : decode cX1_readPotter 41 = .ok (.invokevirtual 87, 3) := by decide +kernel
theorem dX1_readPotter_44 : decode cX1_readPotter 44 = .ok (.istore 4, 2) := by decide +kernel
theorem dX1_readPotter_46 : decode cX1_readPotter 46 = .ok (.aload_n 0, 1) := by decide +kernel
theorem dX1_readPotter_47 : decode cX1_readPotter 47 = .ok (.getfield 15, 3) := by decide +kernel
theorem dX1_readPotter_50 : decode cX1_readPotter 50 = .ok (.iload_n 1, 1) := by decide +kernel
theorem dX1_readPotter_51 : decode cX1_readPotter 51 = .ok (.iload_n 2, 1) := by decide +kernel
theorem dX1_readPotter_52 : decode cX1_readPotter 52 = .ok (.iload_n 3, 1) := by decide +kernel
theorem dX1_readPotter_53 : decode cX1_readPotter 53 = .ok (.iload 4, 2) := by decide +kernel
theorem dX1_readPotter_55 : decode cX1_readPotter 55 = .ok (.invokevirtual 91, 3) := by decide +kernel
theorem dX1_readPotter_58 : decode cX1_readPotter 58 = .ok (.pop, 1) := by decide +kernel
theorem dX1_readPotter_59 : decode cX1_readPotter 59 = .ok (.return_, 1) := by decide +kernel
theorem dX1_readPerhaps_0 : decode cX1_readPerhaps 0 = .ok (.aload_n 0, 1) := by decide +kernel
theorem dX1_readPerhaps_1 : decode cX1_readPerhaps 1 = .ok (.getfield 19, 3) := by decide +kernel
theorem dX1_readPerhaps_4 : decode cX1_readPerhaps 4 = .ok (.aload_n 0, 1) := by decide +kernel
theorem dX1_readPerhaps_5 : decode cX1_readPerhaps 5 = .ok (.getfield 46, 3) := by decide +kernel
theorem dX1_readPerhaps_8 : decode cX1_readPerhaps 8 = .ok (.iaload, 1) := by decide +kernel
theorem dX1_readPerhaps_9 : decode cX1_readPerhaps 9 = .ok (.bipush (-10), 2) := by decide +kernel
theorem dX1_readPerhaps_11 : decode cX1_readPerhaps 11 = .ok (.iload_n 1, 1) := by decide +kernel
theorem dX1_readPerhaps_12 : decode cX1_readPerhaps 12 = .ok (.isub, 1) := by decide +kernel
theorem dX1_readPerhaps_13 : decode cX1_readPerhaps 13 = .ok (.if_icmp .eq 5, 3) := by decide +kernel
theorem dX1_readPerhaps_16 : decode cX1_readPerhaps 16 = .ok (.iload_n 2, 1) := by decide +kernel
theorem dX1_readPerhaps_17 : decode cX1_readPerhaps 17 = .ok (.ireturn, 1) := by decide +kernel
theorem dX1_readPerhaps_18 : decode cX1_readPerhaps 18 = .ok (.aload_n 0, 1) := by decide +kernel
theorem dX1_readPerhaps_19 : decode cX1_readPerhaps 19 = .ok (.invokevirtual 84, 3) := by decide +kernel
theorem dX1_readPerhaps_22 : decode cX1_readPerhaps 22 = .ok (.aload_n 0, 1) := by decide +kernel
theorem dX1_readPerhaps_23 : decode cX1_readPerhaps 23 = .ok (.iconst 0, 1) := by decide +kernel
theorem dX1_readPerhaps_24 : decode cX1_readPerhaps 24 = .ok (.bipush 99, 2) := by decide +kernel
theorem dX1_readPerhaps_26 : decode cX1_readPerhaps 26 = .ok (.invokevirtual 95, 3) := by decide +kernel
theorem dX1_readPerhaps_29 : decode cX1_readPerhaps 29 = .ok (.ireturn, 1) := by decide +kernel
theorem dX1_readRift_0 : decode cX1_readRift 0 = .ok (.aload_n 0, 1) := by decide +kernel
theorem dX1_readRift_1 : decode cX1_readRift 1 = .ok (.invokevirtual 84, 3) := by decide +kernel
theorem dX1_readRift_4 : decode cX1_readRift 4 = .ok (.aload_n 0, 1) := by decide +kernel
theorem dX1_readRift_5 : decode cX1_readRift 5 = .ok (.iconst 0, 1) := by decide +kernel
theorem dX1_readRift_6 : decode cX1_readRift 6 = .ok (.aload_n 0, 1) := by decide +kernel
theorem dX1_readRift_7 : decode cX1_readRift 7 = .ok (.getfield 15, 3) := by decide +kernel
theorem dX1_readRift_10 : decode cX1_readRift 10 = .ok (.getfield 98, 3) := by decide +kernel
theorem dX1_readRift_13 : decode cX1_readRift 13 = .ok (.iconst 1, 1) := by decide +kernel
theorem dX1_readRift_14 : decode cX1_readRift 14 = .ok (.isub, 1) := by decide +kernel
theorem dX1_readRift_15 : decode cX1_readRift 15 = .ok (.invokevirtual 95, 3) := by decide +kernel
theorem dX1_readRift_18 : decode cX1_readRift 18 = .ok (.istore_n 1, 1) := by decide +kernel
theorem dX1_readRift_19 : decode cX1_readRift 19 = .ok (.aload_n 0, 1) := by decide +kernel
theorem dX1_readRift_20 : decode cX1_readRift 20 = .ok (.getfield 19, 3) := by decide +kernel
theorem dX1_readRift_23 : decode cX1_readRift 23 = .ok (.aload_n 0, 1) := by decide +kernel
theorem dX1_readRift_24 : decode cX1_readRift 24 = .ok (.getfield 46, 3) := by decide +kernel
theorem dX1_readRift_27 : decode cX1_readRift 27 = .ok (.iaload, 1) := by decide +kernel
theorem dX1_readRift_28 : decode cX1_readRift 28 = .ok (.iload_n 1, 1) := by decide +kernel
theorem dX1_readRift_29 : decode cX1_readRift 29 = .ok (.if_icmp .ne 7, 3) := by decide +kernel
theorem dX1_readRift_32 : decode cX1_readRift 32 = .ok (.aload_n 0, 1) := by decide +kernel
theorem dX1_readRift_33 : decode cX1_readRift 33 = .ok (.invokevirtual 76, 3) := by decide +kernel
theorem dX1_readRift_36 : decode cX1_readRift 36 = .ok (.aload_n 0, 1) := by decide +kernel
theorem dX1_readRift_37 : decode cX1_readRift 37 = .ok (.iconst 0, 1) := by decide +kernel
theorem dX1_readRift_38 : decode cX1_readRift 38 = .ok (.aload_n 0, 1) := by decide +kernel
theorem dX1_readRift_39 : decode cX1_readRift 39 = .ok (.getfield 15, 3) := by decide +kernel
theorem dX1_readRift_42 : decode cX1_readRift 42 = .ok (.getfield 98, 3) := by decide +kernel
theorem dX1_readRift_45 : decode cX1_readRift 45 = .ok (.iconst 1, 1) := by decide +kernel
theorem dX1_readRift_46 : decode cX1_readRift 46 = .ok (.isub, 1) := by decide +kernel
theorem dX1_readRift_47 : decode cX1_readRift 47 = .ok (.invokevirtual 95, 3) := by decide +kernel
theorem dX1_readRift_50 : decode cX1_readRift 50 = .ok (.istore_n 2, 1) := by decide +kernel
theorem dX1_readRift_51 : decode cX1_readRift 51 = .ok (.aload_n 0, 1) := by decide +kernel
theorem dX1_readRift_52 : decode cX1_readRift 52 = .ok (.iconst 0, 1) := by decide +kernel
theorem dX1_readRift_53 : decode cX1_readRift 53 = .ok (.bipush 99, 2) := by decide +kernel
theorem dX1_readRift_55 : decode cX1_readRift 55 = .ok (.invokevirtual 95, 3) := by decide +kernel
theorem dX1_readRift_58 : decode cX1_readRift 58 = .ok (.istore_n 3, 1) := by decide +kernel
theorem dX1_readRift_59 : decode cX1_readRift 59 = .ok (.aload_n 0, 1) := by decide +kernel
theorem dX1_readRift_60 : decode cX1_readRift 60 = .ok (.invokevirtual 49, 3) := by decide +kernel
theorem dX1_readRift_63 : decode cX1_readRift 63 = .ok (.ifCond .ne 13, 3) := by decide +kernel
theorem dX1_readRift_66 : decode cX1_readRift 66 = .ok (.aload_n 0, 1) := by decide +kernel
theorem dX1_readRift_67 : decode cX1_readRift 67 = .ok (.getfield 15, 3) := by decide +kernel
theorem dX1_readRift_70 : decode cX1_readRift 70 = .ok (.iload_n 1, 1) := by decide +kernel
theorem dX1_readRift_71 : decode cX1_readRift 71 = .ok (.iload_n 2, 1) := by decide +kernel
theorem dX1_readRift_72 : decode cX1_readRift 72 = .ok (.iload_n 3, 1) := by decide +kernel
theorem dX1_readRift_73 : decode cX1_readRift 73 = .ok (.invokevirtual 101, 3) := by decide +kernel
theorem dX1_readRift_76 : decode cX1_readRift 76 = .ok (.return_, 1) := by decide +kernel
theorem dX1_readPair_0 : decode cX1_readPair 0 = .ok (.aload_n 0, 1) := by decide +kernel
theorem dX1_readPair_1 : decode cX1_readPair 1 = .ok (.invokevirtual 84, 3) := by decide +kernel
theorem dX1_readPair_4 : decode cX1_readPair 4 = .ok (.aload_n 0, 1) := by decide +kernel
theorem dX1_readPair_5 : decode cX1_readPair 5 = .ok (.iconst 0, 1) := by decide +kernel
theorem dX1_readPair_6 : decode cX1_readPair 6 = .ok (.iconst 5, 1) := by decide +kernel
theorem dX1_readPair_7 : decode cX1_readPair 7 = .ok (.invokevirtual 95, 3) := by decide +kernel
theorem dX1_readPair_10 : decode cX1_readPair 10 = .ok (.istore_n 1, 1) := by decide +kernel
theorem dX1_readPair_11 : decode cX1_readPair 11 = .ok (.aload_n 0, 1) := by decide +kernel
theorem dX1_readPair_12 : decode cX1_readPair 12 = .ok (.iconst 0, 1) := by decide +kernel
theorem dX1_readPair_13 : decode cX1_readPair 13 = .ok (.bipush 7, 2) := by decide +kernel
theorem dX1_readPair_15 : decode cX1_readPair 15 = .ok (.invokevirtual 95, 3) := by decide +kernel
theorem dX1_readPair_18 : decode cX1_readPair 18 = .ok (.istore_n 2, 1) := by decide +kernel
theorem dX1_readPair_19 : decode cX1_readPair 19 = .ok (.aload_n 0, 1) := by decide +kernel
theorem dX1_readPair_20 : decode cX1_readPair 20 = .ok (.iconst 0, 1) := by decide +kernel
theorem dX1_readPair_21 : decode cX1_readPair 21 = .ok (.bipush 7, 2) := by decide +kernel
theorem dX1_readPair_23 : decode cX1_readPair 23 = .ok (.invokevirtual 95, 3) := by decide +kernel
theorem dX1_readPair_26 : decode cX1_readPair 26 = .ok (.istore_n 3, 1) := by decide +kernel
theorem dX1_readPair_27 : decode cX1_readPair 27 = .ok (.aload_n 0, 1) := by decide +kernel
theorem dX1_readPair_28 : decode cX1_readPair 28 = .ok (.invokevirtual 49, 3) := by decide +kernel
theorem dX1_readPair_31 : decode cX1_readPair 31 = .ok (.ifCond .ne 18, 3) := by decide +kernel
theorem dX1_readPair_34 : decode cX1_readPair 34 = .ok (.aload_n 0, 1) := by decide +kernel
theorem dX1_readPair_35 : decode cX1_readPair 35 = .ok (.getfield 15, 3) := by decide +kernel
theorem dX1_readPair_38 : decode cX1_readPair 38 = .ok (.getfield 105, 3) := by decide +kernel
theorem dX1_readPair_41 : decode cX1_readPair 41 = .ok (.iload_n 1, 1) := by decide +kernel
theorem dX1_readPair_42 : decode cX1_readPair 42 = .ok (.bipush 10, 2) := by decide +kernel
theorem dX1_readPair_44 : decode cX1_readPair 44 = .ok (.iload_n 2, 1) := by decide +kernel
theorem dX1_readPair_45 : decode cX1_readPair 45 = .ok (.imul, 1) := by decide +kernel
theorem dX1_readPair_46 : decode cX1_readPair 46 = .ok (.iload_n 3, 1) := by decide +kernel
theorem dX1_readPair_47 : decode cX1_readPair 47 = .ok (.iadd, 1) := by decide +kernel
theorem dX1_readPair_48 : decode cX1_readPair 48 = .ok (.iastore, 1) := by decide +kernel
theorem dX1_readPair_49 : decode cX1_readPair 49 = .ok (.return_, 1) := by decide +kernel
theorem dX1_readClay_0 : decode cX1_readClay 0 = .ok (.aload_n 0, 1) := by decide +kernel
theorem dX1_readClay_1 : decode cX1_readClay 1 = .ok (.invokevirtual 84, 3) := by decide +kernel
theorem dX1_readClay_4 : decode cX1_readClay 4 = .ok (.aload_n 0, 1) := by decide +kernel
theorem dX1_readClay_5 : decode cX1_readClay 5 = .ok (.iconst 1, 1) := by decide +kernel
theorem dX1_readClay_6 : decode cX1_readClay 6 = .ok (.bipush 20, 2) := by decide +kernel
theorem dX1_readClay_8 : decode cX1_readClay 8 = .ok (.invokevirtual 95, 3) := by decide +kernel
theorem dX1_readClay_11 : decode cX1_readClay 11 = .ok (.istore_n 1, 1) := by decide +kernel
theorem dX1_readClay_12 : decode cX1_readClay 12 = .ok (.aload_n 0, 1) := by decide +kernel
theorem dX1_readClay_13 : decode cX1_readClay 13 = .ok (.invokevirtual 49, 3) := by decide +kernel
theorem dX1_readClay_16 : decode cX1_readClay 16 = .ok (.ifCond .ne 11, 3) := by decide +kernel
theorem dX1_readClay_19 : decode cX1_readClay 19 = .ok (.aload_n 0, 1) := by decide +kernel
theorem dX1_readClay_20 : decode cX1_readClay 20 = .ok (.getfield 15, 3) := by decide +kernel
theorem dX1_readClay_23 : decode cX1_readClay 23 = .ok (.iload_n 1, 1) := by decide +kernel
theorem dX1_readClay_24 : decode cX1_readClay 24 = .ok (.putfield 108, 3) := by decide +kernel
theorem dX1_readClay_27 : decode cX1_readClay 27 = .ok (.return_, 1) := by decide +kernel
theorem dX1_readNumber_0 : decode cX1_readNumber 0 = .ok (.aload_n 0, 1) := by decide +kernel
theorem dX1_readNumber_1 : decode cX1_readNumber 1 = .ok (.getfield 19, 3) := by decide +kernel
theorem dX1_readNumber_4 : decode cX1_readNumber 4 = .ok (.aload_n 0, 1) := by decide +kernel
theorem dX1_readNumber_5 : decode cX1_readNumber 5 = .ok (.getfield 46, 3) := by decide +kernel
theorem dX1_readNumber_8 : decode cX1_readNumber 8 = .ok (.iaload, 1) := by decide +kernel
theorem dX1_readNumber_9 : decode cX1_readNumber 9 = .ok (.istore_n 3, 1) := by decide +kernel
theorem dX1_readNumber_10 : decode cX1_readNumber 10 = .ok (.aload_n 0, 1) := by decide +kernel
theorem dX1_readNumber_11 : decode cX1_readNumber 11 = .ok (.invokevirtual 49, 3) := by decide +kernel
theorem dX1_readNumber_14 : decode cX1_readNumber 14 = .ok (.ifCond .ne 12, 3) := by decide +kernel
theorem dX1_readNumber_17 : decode cX1_readNumber 17 = .ok (.iload_n 3, 1) := by decide +kernel
theorem dX1_readNumber_18 : decode cX1_readNumber 18 = .ok (.iload_n 1, 1) := by decide +kernel
theorem dX1_readNumber_19 : decode cX1_readNumber 19 = .ok (.iload_n 2, 1) := by decide +kernel
theorem dX1_readNumber_20 : decode cX1_readNumber 20 = .ok (.invokestatic 60, 3) := by decide +kernel
theorem dX1_readNumber_23 : decode cX1_readNumber 23 = .ok (.ifCond .ne 9, 3) := by decide +kernel
theorem dX1_readNumber_26 : decode cX1_readNumber 26 = .ok (.aload_n 0, 1) := by decide +kernel
theorem dX1_readNumber_27 : decode cX1_readNumber 27 = .ok (.invokevirtual 76, 3) := by decide +kernel
theorem dX1_readNumber_30 : decode cX1_readNumber 30 = .ok (.iload_n 1, 1) := by decide +kernel
theorem dX1_readNumber_31 : decode cX1_readNumber 31 = .ok (.ireturn, 1) := by decide +kernel
theorem dX1_readNumber_32 : decode cX1_readNumber 32 = .ok (.aload_n 0, 1) := by decide +kernel
theorem dX1_readNumber_33 : decode cX1_readNumber 33 = .ok (.invokevirtual 84, 3) := by decide +kernel
theorem dX1_readNumber_36 : decode cX1_readNumber 36 = .ok (.iload_n 3, 1) := by decide +kernel
theorem dX1_readNumber_37 : decode cX1_readNumber 37 = .ok (.ireturn, 1) := by decide +kernel
theorem dX1_take_0 : decode cX1_take 0 = .ok (.aload_n 0, 1) := by decide +kernel
theorem dX1_take_1 : decode cX1_take 1 = .ok (.invokevirtual 49, 3) := by decide +kernel
theorem dX1_take_4 : decode cX1_take 4 = .ok (.ifCond .ne 16, 3) := by decide +kernel
theorem dX1_take_7 : decode cX1_take 7 = .ok (.aload_n 0, 1) := by decide +kernel
theorem dX1_take_8 : decode cX1_take 8 = .ok (.getfield 19, 3) := by decide +kernel
theorem dX1_take_11 : decode cX1_take 11 = .ok (.aload_n 0, 1) := by decide +kernel
theorem dX1_take_12 : decode cX1_take 12 = .ok (.getfield 46, 3) := by decide +kernel
theorem dX1_take_15 : decode cX1_take 15 = .ok (.iaload, 1) := by decide +kernel
theorem dX1_take_16 : decode cX1_take 16 = .ok (.iload_n 1, 1) := by decide +kernel
theorem dX1_take_17 : decode cX1_take 17 = .ok (.if_icmp .eq 8, 3) := by decide +kernel
theorem dX1_take_20 : decode cX1_take 20 = .ok (.aload_n 0, 1) := by decide +kernel
theorem dX1_take_21 : decode cX1_take 21 = .ok (.invokevirtual 76, 3) := by decide +kernel
theorem dX1_take_24 : decode cX1_take 24 = .ok (.return_, 1) := by decide +kernel
theorem dX1_take_25 : decode cX1_take 25 = .ok (.aload_n 0, 1) := by decide +kernel
theorem dX1_take_26 : decode cX1_take 26 = .ok (.invokevirtual 84, 3) := by decide +kernel
theorem dX1_take_29 : decode cX1_take 29 = .ok (.return_, 1) := by decide +kernel
theorem dX1_step_0 : decode cX1_step 0 = .ok (.aload_n 0, 1) := by decide +kernel
theorem dX1_step_1 : decode cX1_step 1 = .ok (.getfield 46, 3) := by decide +kernel
theorem dX1_step_4 : decode cX1_step 4 = .ok (.bipush 120, 2) := by decide +kernel
theorem dX1_step_6 : decode cX1_step 6 = .ok (.if_icmp .ge 13, 3) := by decide +kernel
theorem dX1_step_9 : decode cX1_step 9 = .ok (.aload_n 0, 1) := by decide +kernel
theorem dX1_step_10 : decode cX1_step 10 = .ok (.dup, 1) := by decide +kernel
theorem dX1_step_11 : decode cX1_step 11 = .ok (.getfield 46, 3) := by decide +kernel
theorem dX1_step_14 : decode cX1_step 14 = .ok (.iconst 1, 1) := by decide +kernel
theorem dX1_step_15 : decode cX1_step 15 = .ok (.iadd, 1) := by decide +kernel
theorem dX1_step_16 : decode cX1_step 16 = .ok (.putfield 46, 3) := by decide +kernel
theorem dX1_step_19 : decode cX1_step 19 = .ok (.return_, 1) := by decide +kernel
theorem dX1_refuse_0 : decode cX1_refuse 0 = .ok (.aload_n 0, 1) := by decide +kernel
theorem dX1_refuse_1 : decode cX1_refuse 1 = .ok (.getfield 26, 3) := by decide +kernel
theorem dX1_refuse_4 : decode cX1_refuse 4 = .ok (.iconst (-1), 1) := by decide +kernel
theorem dX1_refuse_5 : decode cX1_refuse 5 = .ok (.if_icmp .ne 16, 3) := by decide +kernel
theorem dX1_refuse_8 : decode cX1_refuse 8 = .ok (.aload_n 0, 1) := by decide +kernel
theorem dX1_refuse_9 : decode cX1_refuse 9 = .ok (.aload_n 0, 1) := by decide +kernel
theorem dX1_refuse_10 : decode cX1_refuse 10 = .ok (.getfield 23, 3) := by decide +kernel
theorem dX1_refuse_13 : decode cX1_refuse 13 = .ok (.aload_n 0, 1) := by decide +kernel
theorem dX1_refuse_14 : decode cX1_refuse 14 = .ok (.getfield 46, 3) := by decide +kernel
theorem dX1_refuse_17 : decode cX1_refuse 17 = .ok (.iaload, 1) := by decide +kernel
theorem dX1_refuse_18 : decode cX1_refuse 18 = .ok (.putfield 26, 3) := by decide +kernel
theorem dX1_refuse_21 : decode cX1_refuse 21 = .ok (.return_, 1) := by decide +kernel
theorem dX1_goesOnAt_0 : decode cX1_goesOnAt 0 = .ok (.iload_n 1, 1) := by decide +kernel
theorem dX1_goesOnAt_1 : decode cX1_goesOnAt 1 = .ok (.ifCond .le 43, 3) := by decide +kernel
theorem dX1_goesOnAt_4 : decode cX1_goesOnAt 4 = .ok (.aload_n 0, 1) := by decide +kernel
theorem dX1_goesOnAt_5 : decode cX1_goesOnAt 5 = .ok (.iload_n 1, 1) := by decide +kernel
theorem dX1_goesOnAt_6 : decode cX1_goesOnAt 6 = .ok (.invokevirtual 111, 3) := by decide +kernel
theorem dX1_goesOnAt_9 : decode cX1_goesOnAt 9 = .ok (.ifCond .eq 13, 3) := by decide +kernel
theorem dX1_goesOnAt_12 : decode cX1_goesOnAt 12 = .ok (.aload_n 0, 1) := by decide +kernel
theorem dX1_goesOnAt_13 : decode cX1_goesOnAt 13 = .ok (.iload_n 1, 1) := by decide +kernel
theorem dX1_goesOnAt_14 : decode cX1_goesOnAt 14 = .ok (.iconst 1, 1) := by decide +kernel
theorem dX1_goesOnAt_15 : decode cX1_goesOnAt 15 = .ok (.isub, 1) := by decide +kernel
theorem dX1_goesOnAt_16 : decode cX1_goesOnAt 16 = .ok (.invokevirtual 111, 3) := by decide +kernel
theorem dX1_goesOnAt_19 : decode cX1_goesOnAt 19 = .ok (.ifCond .ne 21, 3) := by decide +kernel
theorem dX1_goesOnAt_22 : decode cX1_goesOnAt 22 = .ok (.aload_n 0, 1) := by decide +kernel
theorem dX1_goesOnAt_23 : decode cX1_goesOnAt 23 = .ok (.iload_n 1, 1) := by decide +kernel
theorem dX1_goesOnAt_24 : decode cX1_goesOnAt 24 = .ok (.invokevirtual 114, 3) := by decide +kernel
theorem dX1_goesOnAt_27 : decode cX1_goesOnAt 27 = .ok (.ifCond .eq 17, 3) := by decide +kernel
theorem dX1_goesOnAt_30 : decode cX1_goesOnAt 30 = .ok (.aload_n 0, 1) := by decide +kernel
theorem dX1_goesOnAt_31 : decode cX1_goesOnAt 31 = .ok (.iload_n 1, 1) := by decide +kernel
theorem dX1_goesOnAt_32 : decode cX1_goesOnAt 32 = .ok (.iconst 1, 1) := by decide +kernel
theorem dX1_goesOnAt_33 : decode cX1_goesOnAt 33 = .ok (.isub, 1) := by decide +kernel
theorem dX1_goesOnAt_34 : decode cX1_goesOnAt 34 = .ok (.invokevirtual 114, 3) := by decide +kernel
theorem dX1_goesOnAt_37 : decode cX1_goesOnAt 37 = .ok (.ifCond .eq 7, 3) := by decide +kernel
theorem dX1_goesOnAt_40 : decode cX1_goesOnAt 40 = .ok (.iconst 1, 1) := by decide +kernel
theorem dX1_goesOnAt_41 : decode cX1_goesOnAt 41 = .ok (.goto 4, 3) := by decide +kernel
theorem dX1_goesOnAt_44 : decode cX1_goesOnAt 44 = .ok (.iconst 0, 1) := by decide +kernel
theorem dX1_goesOnAt_45 : decode cX1_goesOnAt 45 = .ok (.ireturn, 1) := by decide +kernel
theorem dX1_tokenAt_0 : decode cX1_tokenAt 0 = .ok (.aload_n 0, 1) := by decide +kernel
theorem dX1_tokenAt_1 : decode cX1_tokenAt 1 = .ok (.iload_n 1, 1) := by decide +kernel
theorem dX1_tokenAt_2 : decode cX1_tokenAt 2 = .ok (.invokevirtual 114, 3) := by decide +kernel
theorem dX1_tokenAt_5 : decode cX1_tokenAt 5 = .ok (.ifCond .eq 9, 3) := by decide +kernel
theorem dX1_tokenAt_8 : decode cX1_tokenAt 8 = .ok (.aload_n 0, 1) := by decide +kernel
theorem dX1_tokenAt_9 : decode cX1_tokenAt 9 = .ok (.iload_n 1, 1) := by decide +kernel
theorem dX1_tokenAt_10 : decode cX1_tokenAt 10 = .ok (.invokevirtual 117, 3) := by decide +kernel
theorem dX1_tokenAt_13 : decode cX1_tokenAt 13 = .ok (.ireturn, 1) := by decide +kernel
theorem dX1_tokenAt_14 : decode cX1_tokenAt 14 = .ok (.aload_n 0, 1) := by decide +kernel
theorem dX1_tokenAt_15 : decode cX1_tokenAt 15 = .ok (.iload_n 1, 1) := by decide +kernel
theorem dX1_tokenAt_16 : decode cX1_tokenAt 16 = .ok (.invokevirtual 111, 3) := by decide +kernel
theorem dX1_tokenAt_19 : decode cX1_tokenAt 19 = .ok (.ifCond .eq 9, 3) := by decide +kernel
theorem dX1_tokenAt_22 : decode cX1_tokenAt 22 = .ok (.aload_n 0, 1) := by decide +kernel
theorem dX1_tokenAt_23 : decode cX1_tokenAt 23 = .ok (.iload_n 1, 1) := by decide +kernel
theorem dX1_tokenAt_24 : decode cX1_tokenAt 24 = .ok (.invokevirtual 120, 3) := by decide +kernel
theorem dX1_tokenAt_27 : decode cX1_tokenAt 27 = .ok (.ireturn, 1) := by decide +kernel
theorem dX1_tokenAt_28 : decode cX1_tokenAt 28 = .ok (.aload_n 0, 1) := by decide +kernel
theorem dX1_tokenAt_29 : decode cX1_tokenAt 29 = .ok (.getfield 9, 3) := by decide +kernel
theorem dX1_tokenAt_32 : decode cX1_tokenAt 32 = .ok (.getfield 35, 3) := by decide +kernel
theorem dX1_tokenAt_35 : decode cX1_tokenAt 35 = .ok (.iload_n 1, 1) := by decide +kernel
theorem dX1_tokenAt_36 : decode cX1_tokenAt 36 = .ok (.iaload, 1) := by decide +kernel
theorem dX1_tokenAt_37 : decode cX1_tokenAt 37 = .ok (.bipush 59, 2) := by decide +kernel
theorem dX1_tokenAt_39 : decode cX1_tokenAt 39 = .ok (.if_icmp .ne 8, 3) := by decide +kernel
theorem dX1_tokenAt_42 : decode cX1_tokenAt 42 = .ok (.bipush (-2), 2) := by decide +kernel
theorem dX1_tokenAt_44 : decode cX1_tokenAt 44 = .ok (.goto 5, 3) := by decide +kernel
theorem dX1_tokenAt_47 : decode cX1_tokenAt 47 = .ok (.bipush (-3), 2) := by decide +kernel
theorem dX1_tokenAt_49 : decode cX1_tokenAt 49 = .ok (.ireturn, 1) := by decide +kernel
theorem dX1_numberAt_0 : decode cX1_numberAt 0 = .ok (.iconst 0, 1) := by decide +kernel
theorem dX1_numberAt_1 : decode cX1_numberAt 1 = .ok (.istore_n 2, 1) := by decide +kernel
theorem dX1_numberAt_2 : decode cX1_numberAt 2 = .ok (.iload_n 1, 1) := by decide +kernel
theorem dX1_numberAt_3 : decode cX1_numberAt 3 = .ok (.istore_n 3, 1) := by decide +kernel
theorem dX1_numberAt_4 : decode cX1_numberAt 4 = .ok (.iload_n 3, 1) := by decide +kernel
theorem dX1_numberAt_5 : decode cX1_numberAt 5 = .ok (.aload_n 0, 1) := by decide +kernel
theorem dX1_numberAt_6 : decode cX1_numberAt 6 = .ok (.getfield 9, 3) := by decide +kernel
theorem dX1_numberAt_9 : decode cX1_numberAt 9 = .ok (.getfield 30, 3) := by decide +kernel
theorem dX1_numberAt_12 : decode cX1_numberAt 12 = .ok (.if_icmp .ge 41, 3) := by decide +kernel
theorem dX1_numberAt_15 : decode cX1_numberAt 15 = .ok (.aload_n 0, 1) := by decide +kernel
theorem dX1_numberAt_16 : decode cX1_numberAt 16 = .ok (.iload_n 3, 1) := by decide +kernel
theorem dX1_numberAt_17 : decode cX1_numberAt 17 = .ok (.invokevirtual 114, 3) := by decide +kernel
theorem dX1_numberAt_20 : decode cX1_numberAt 20 = .ok (.ifCond .eq 33, 3) := by decide +kernel
theorem dX1_numberAt_23 : decode cX1_numberAt 23 = .ok (.bipush 10, 2) := by decide +kernel
theorem dX1_numberAt_25 : decode cX1_numberAt 25 = .ok (.iload_n 2, 1) := by decide +kernel
theorem dX1_numberAt_26 : decode cX1_numberAt 26 = .ok (.imul, 1) := by decide +kernel
theorem dX1_numberAt_27 : decode cX1_numberAt 27 = .ok (.aload_n 0, 1) := by decide +kernel
theorem dX1_numberAt_28 : decode cX1_numberAt 28 = .ok (.getfield 9, 3) := by decide +kernel
theorem dX1_numberAt_31 : decode cX1_numberAt 31 = .ok (.getfield 35, 3) := by decide +kernel
theorem dX1_numberAt_34 : decode cX1_numberAt 34 = .ok (.iload_n 3, 1) := by decide +kernel
theorem dX1_numberAt_35 : decode cX1_numberAt 35 = .ok (.iaload, 1) := by decide +kernel
theorem dX1_numberAt_36 : decode cX1_numberAt 36 = .ok (.iadd, 1) := by decide +kernel
theorem dX1_numberAt_37 : decode cX1_numberAt 37 = .ok (.bipush 48, 2) := by decide +kernel
theorem dX1_numberAt_39 : decode cX1_numberAt 39 = .ok (.isub, 1) := by decide +kernel
theorem dX1_numberAt_40 : decode cX1_numberAt 40 = .ok (.sipush 1000, 3) := by decide +kernel
theorem dX1_numberAt_43 : decode cX1_numberAt 43 = .ok (.invokestatic 123, 3) := by decide +kernel
theorem dX1_numberAt_46 : decode cX1_numberAt 46 = .ok (.istore_n 2, 1) := by decide +kernel
theorem dX1_numberAt_47 : decode cX1_numberAt 47 = .ok (.iinc 3 1, 3) := by decide +kernel
theorem dX1_numberAt_50 : decode cX1_numberAt 50 = .ok (.goto (-46), 3) := by decide +kernel
theorem dX1_numberAt_53 : decode cX1_numberAt 53 = .ok (.iload_n 2, 1) := by decide +kernel
theorem dX1_numberAt_54 : decode cX1_numberAt 54 = .ok (.ireturn, 1) := by decide +kernel
theorem dX1_wordAt_0 : decode cX1_wordAt 0 = .ok (.iconst 0, 1) := by decide +kernel
theorem dX1_wordAt_1 : decode cX1_wordAt 1 = .ok (.istore_n 2, 1) := by decide +kernel
theorem dX1_wordAt_2 : decode cX1_wordAt 2 = .ok (.iload_n 2, 1) := by decide +kernel
theorem dX1_wordAt_3 : decode cX1_wordAt 3 = .ok (.bipush 12, 2) := by decide +kernel
theorem dX1_wordAt_5 : decode cX1_wordAt 5 = .ok (.if_icmp .gt 26, 3) := by decide +kernel
theorem dX1_wordAt_8 : decode cX1_wordAt 8 = .ok (.aload_n 0, 1) := by decide +kernel
theorem dX1_wordAt_9 : decode cX1_wordAt 9 = .ok (.iload_n 1, 1) := by decide +kernel
theorem dX1_wordAt_10 : decode cX1_wordAt 10 = .ok (.iload_n 2, 1) := by decide +kernel
theorem dX1_wordAt_11 : decode cX1_wordAt 11 = .ok (.invokestatic 128, 3) := by decide +kernel
theorem dX1_wordAt_14 : decode cX1_wordAt 14 = .ok (.invokevirtual 132, 3) := by decide +kernel
theorem dX1_wordAt_17 : decode cX1_wordAt 17 = .ok (.ifCond .eq 8, 3) := by decide +kernel
theorem dX1_wordAt_20 : decode cX1_wordAt 20 = .ok (.bipush (-10), 2) := by decide +kernel
theorem dX1_wordAt_22 : decode cX1_wordAt 22 = .ok (.iload_n 2, 1) := by decide +kernel
theorem dX1_wordAt_23 : decode cX1_wordAt 23 = .ok (.isub, 1) := by decide +kernel
theorem dX1_wordAt_24 : decode cX1_wordAt 24 = .ok (.ireturn, 1) := by decide +kernel
theorem dX1_wordAt_25 : decode cX1_wordAt 25 = .ok (.iinc 2 1, 3) := by decide +kernel
theorem dX1_wordAt_28 : decode cX1_wordAt 28 = .ok (.goto (-26), 3) := by decide +kernel
theorem dX1_wordAt_31 : decode cX1_wordAt 31 = .ok (.bipush (-3), 2) := by decide +kernel
theorem dX1_wordAt_33 : decode cX1_wordAt 33 = .ok (.ireturn, 1) := by decide +kernel
theorem dX1_isWordAt_0 : decode cX1_isWordAt 0 = .ok (.iload_n 1, 1) := by decide +kernel
theorem dX1_isWordAt_1 : decode cX1_isWordAt 1 = .ok (.aload_n 2, 1) := by decide +kernel
theorem dX1_isWordAt_2 : decode cX1_isWordAt 2 = .ok (.invokevirtual 136, 3) := by decide +kernel
theorem dX1_isWordAt_5 : decode cX1_isWordAt 5 = .ok (.iadd, 1) := by decide +kernel
theorem dX1_isWordAt_6 : decode cX1_isWordAt 6 = .ok (.istore_n 3, 1) := by decide +kernel
theorem dX1_isWordAt_7 : decode cX1_isWordAt 7 = .ok (.iload_n 3, 1) := by decide +kernel
theorem dX1_isWordAt_8 : decode cX1_isWordAt 8 = .ok (.aload_n 0, 1) := by decide +kernel
theorem dX1_isWordAt_9 : decode cX1_isWordAt 9 = .ok (.getfield 9, 3) := by decide +kernel
theorem dX1_isWordAt_12 : decode cX1_isWordAt 12 = .ok (.getfield 30, 3) := by decide +kernel
theorem dX1_isWordAt_15 : decode cX1_isWordAt 15 = .ok (.if_icmp .gt 22, 3) := by decide +kernel
theorem dX1_isWordAt_18 : decode cX1_isWordAt 18 = .ok (.iload_n 3, 1) := by decide +kernel
theorem dX1_isWordAt_19 : decode cX1_isWordAt 19 = .ok (.aload_n 0, 1) := by decide +kernel
theorem dX1_isWordAt_20 : decode cX1_isWordAt 20 = .ok (.getfield 9, 3) := by decide +kernel
theorem dX1_isWordAt_23 : decode cX1_isWordAt 23 = .ok (.getfield 30, 3) := by decide +kernel
theorem dX1_isWordAt_26 : decode cX1_isWordAt 26 = .ok (.if_icmp .ge 13, 3) := by decide +kernel
theorem dX1_isWordAt_29 : decode cX1_isWordAt 29 = .ok (.aload_n 0, 1) := by decide +kernel
theorem dX1_isWordAt_30 : decode cX1_isWordAt 30 = .ok (.iload_n 3, 1) := by decide +kernel
theorem dX1_isWordAt_31 : decode cX1_isWordAt 31 = .ok (.invokevirtual 111, 3) := by decide +kernel
theorem dX1_isWordAt_34 : decode cX1_isWordAt 34 = .ok (.ifCond .eq 5, 3) := by decide +kernel
theorem dX1_isWordAt_37 : decode cX1_isWordAt 37 = .ok (.iconst 0, 1) := by decide +kernel
theorem dX1_isWordAt_38 : decode cX1_isWordAt 38 = .ok (.ireturn, 1) := by decide +kernel
theorem dX1_isWordAt_39 : decode cX1_isWordAt 39 = .ok (.iconst 0, 1) := by decide +kernel
theorem dX1_isWordAt_40 : decode cX1_isWordAt 40 = .ok (.istore 4, 2) := by decide +kernel
theorem dX1_isWordAt_42 : decode cX1_isWordAt 42 = .ok (.iload 4, 2) := by decide +kernel
theorem dX1_isWordAt_44 : decode cX1_isWordAt 44 = .ok (.aload_n 2, 1) := by decide +kernel
theorem dX1_isWordAt_45 : decode cX1_isWordAt 45 = .ok (.invokevirtual 136, 3) := by decide +kernel
theorem dX1_isWordAt_48 : decode cX1_isWordAt 48 = .ok (.if_icmp .ge 32, 3) := by decide +kernel
theorem dX1_isWordAt_51 : decode cX1_isWordAt 51 = .ok (.aload_n 0, 1) := by decide +kernel
theorem dX1_isWordAt_52 : decode cX1_isWordAt 52 = .ok (.getfield 9, 3) := by decide +kernel
theorem dX1_isWordAt_55 : decode cX1_isWordAt 55 = .ok (.getfield 35, 3) := by decide +kernel
theorem dX1_isWordAt_58 : decode cX1_isWordAt 58 = .ok (.iload_n 1, 1) := by decide +kernel
theorem dX1_isWordAt_59 : decode cX1_isWordAt 59 = .ok (.iload 4, 2) := by decide +kernel
theorem dX1_isWordAt_61 : decode cX1_isWordAt 61 = .ok (.iadd, 1) := by decide +kernel
theorem dX1_isWordAt_62 : decode cX1_isWordAt 62 = .ok (.iaload, 1) := by decide +kernel
theorem dX1_isWordAt_63 : decode cX1_isWordAt 63 = .ok (.aload_n 2, 1) := by decide +kernel
theorem dX1_isWordAt_64 : decode cX1_isWordAt 64 = .ok (.iload 4, 2) := by decide +kernel
theorem dX1_isWordAt_66 : decode cX1_isWordAt 66 = .ok (.invokevirtual 141, 3) := by decide +kernel
theorem dX1_isWordAt_69 : decode cX1_isWordAt 69 = .ok (.if_icmp .eq 5, 3) := by decide +kernel
theorem dX1_isWordAt_72 : decode cX1_isWordAt 72 = .ok (.iconst 0, 1) := by decide +kernel
theorem dX1_isWordAt_73 : decode cX1_isWordAt 73 = .ok (.ireturn, 1) := by decide +kernel
theorem dX1_isWordAt_74 : decode cX1_isWordAt 74 = .ok (.iinc 4 1, 3) := by decide +kernel
theorem dX1_isWordAt_77 : decode cX1_isWordAt 77 = .ok (.goto (-35), 3) := by decide +kernel
theorem dX1_isWordAt_80 : decode cX1_isWordAt 80 = .ok (.iconst 1, 1) := by decide +kernel
theorem dX1_isWordAt_81 : decode cX1_isWordAt 81 = .ok (.ireturn, 1) := by decide +kernel
theorem dX1_nameOf_0 : decode cX1_nameOf 0 = .ok (.iload_n 0, 1) := by decide +kernel
theorem dX1_nameOf_1 : decode cX1_nameOf 1 = .ok (.tableswitch 99 0 11 #[63, 66, 69, 72, 75, 78, 81, 84, 87, 90, 93, 96], 63) := by decide +kernel
theorem dX1_nameOf_64 : decode cX1_nameOf 64 = .ok (.ldc 145, 2) := by decide +kernel
theorem dX1_nameOf_66 : decode cX1_nameOf 66 = .ok (.areturn, 1) := by decide +kernel
theorem dX1_nameOf_67 : decode cX1_nameOf 67 = .ok (.ldc 147, 2) := by decide +kernel
theorem dX1_nameOf_69 : decode cX1_nameOf 69 = .ok (.areturn, 1) := by decide +kernel
theorem dX1_nameOf_70 : decode cX1_nameOf 70 = .ok (.ldc 149, 2) := by decide +kernel
theorem dX1_nameOf_72 : decode cX1_nameOf 72 = .ok (.areturn, 1) := by decide +kernel
theorem dX1_nameOf_73 : decode cX1_nameOf 73 = .ok (.ldc 151, 2) := by decide +kernel
theorem dX1_nameOf_75 : decode cX1_nameOf 75 = .ok (.areturn, 1) := by decide +kernel
theorem dX1_nameOf_76 : decode cX1_nameOf 76 = .ok (.ldc 153, 2) := by decide +kernel
theorem dX1_nameOf_78 : decode cX1_nameOf 78 = .ok (.areturn, 1) := by decide +kernel
theorem dX1_nameOf_79 : decode cX1_nameOf 79 = .ok (.ldc 155, 2) := by decide +kernel
theorem dX1_nameOf_81 : decode cX1_nameOf 81 = .ok (.areturn, 1) := by decide +kernel
theorem dX1_nameOf_82 : decode cX1_nameOf 82 = .ok (.ldc 157, 2) := by decide +kernel
theorem dX1_nameOf_84 : decode cX1_nameOf 84 = .ok (.areturn, 1) := by decide +kernel
theorem dX1_nameOf_85 : decode cX1_nameOf 85 = .ok (.ldc 159, 2) := by decide +kernel
theorem dX1_nameOf_87 : decode cX1_nameOf 87 = .ok (.areturn, 1) := by decide +kernel
theorem dX1_nameOf_88 : decode cX1_nameOf 88 = .ok (.ldc 161, 2) := by decide +kernel
theorem dX1_nameOf_90 : decode cX1_nameOf 90 = .ok (.areturn, 1) := by decide +kernel
theorem dX1_nameOf_91 : decode cX1_nameOf 91 = .ok (.ldc 163, 2) := by decide +kernel
theorem dX1_nameOf_93 : decode cX1_nameOf 93 = .ok (.areturn, 1) := by decide +kernel
theorem dX1_nameOf_94 : decode cX1_nameOf 94 = .ok (.ldc 164, 2) := by decide +kernel
theorem dX1_nameOf_96 : decode cX1_nameOf 96 = .ok (.areturn, 1) := by decide +kernel
theorem dX1_nameOf_97 : decode cX1_nameOf 97 = .ok (.ldc 166, 2) := by decide +kernel
theorem dX1_nameOf_99 : decode cX1_nameOf 99 = .ok (.areturn, 1) := by decide +kernel
theorem dX1_nameOf_100 : decode cX1_nameOf 100 = .ok (.ldc 168, 2) := by decide +kernel
theorem dX1_nameOf_102 : decode cX1_nameOf 102 = .ok (.areturn, 1) := by decide +kernel
theorem dX1_isLetter_0 : decode cX1_isLetter 0 = .ok (.aload_n 0, 1) := by decide +kernel
theorem dX1_isLetter_1 : decode cX1_isLetter 1 = .ok (.getfield 9, 3) := by decide +kernel
theorem dX1_isLetter_4 : decode cX1_isLetter 4 = .ok (.getfield 35, 3) := by decide +kernel
theorem dX1_isLetter_7 : decode cX1_isLetter 7 = .ok (.iload_n 1, 1) := by decide +kernel
theorem dX1_isLetter_8 : decode cX1_isLetter 8 = .ok (.iaload, 1) := by decide +kernel
theorem dX1_isLetter_9 : decode cX1_isLetter 9 = .ok (.bipush 97, 2) := by decide +kernel
theorem dX1_isLetter_11 : decode cX1_isLetter 11 = .ok (.if_icmp .lt 21, 3) := by decide +kernel
theorem dX1_isLetter_14 : decode cX1_isLetter 14 = .ok (.aload_n 0, 1) := by decide +kernel
theorem dX1_isLetter_15 : decode cX1_isLetter 15 = .ok (.getfield 9, 3) := by decide +kernel
theorem dX1_isLetter_18 : decode cX1_isLetter 18 = .ok (.getfield 35, 3) := by decide +kernel
theorem dX1_isLetter_21 : decode cX1_isLetter 21 = .ok (.iload_n 1, 1) := by decide +kernel
theorem dX1_isLetter_22 : decode cX1_isLetter 22 = .ok (.iaload, 1) := by decide +kernel
theorem dX1_isLetter_23 : decode cX1_isLetter 23 = .ok (.bipush 122, 2) := by decide +kernel
theorem dX1_isLetter_25 : decode cX1_isLetter 25 = .ok (.if_icmp .gt 7, 3) := by decide +kernel
theorem dX1_isLetter_28 : decode cX1_isLetter 28 = .ok (.iconst 1, 1) := by decide +kernel
theorem dX1_isLetter_29 : decode cX1_isLetter 29 = .ok (.goto 4, 3) := by decide +kernel
theorem dX1_isLetter_32 : decode cX1_isLetter 32 = .ok (.iconst 0, 1) := by decide +kernel
theorem dX1_isLetter_33 : decode cX1_isLetter 33 = .ok (.ireturn, 1) := by decide +kernel
theorem dX1_isDigit_0 : decode cX1_isDigit 0 = .ok (.aload_n 0, 1) := by decide +kernel
theorem dX1_isDigit_1 : decode cX1_isDigit 1 = .ok (.getfield 9, 3) := by decide +kernel
theorem dX1_isDigit_4 : decode cX1_isDigit 4 = .ok (.getfield 35, 3) := by decide +kernel
theorem dX1_isDigit_7 : decode cX1_isDigit 7 = .ok (.iload_n 1, 1) := by decide +kernel
theorem dX1_isDigit_8 : decode cX1_isDigit 8 = .ok (.iaload, 1) := by decide +kernel
theorem dX1_isDigit_9 : decode cX1_isDigit 9 = .ok (.bipush 48, 2) := by decide +kernel
theorem dX1_isDigit_11 : decode cX1_isDigit 11 = .ok (.if_icmp .lt 21, 3) := by decide +kernel
theorem dX1_isDigit_14 : decode cX1_isDigit 14 = .ok (.aload_n 0, 1) := by decide +kernel
theorem dX1_isDigit_15 : decode cX1_isDigit 15 = .ok (.getfield 9, 3) := by decide +kernel
theorem dX1_isDigit_18 : decode cX1_isDigit 18 = .ok (.getfield 35, 3) := by decide +kernel
theorem dX1_isDigit_21 : decode cX1_isDigit 21 = .ok (.iload_n 1, 1) := by decide +kernel
theorem dX1_isDigit_22 : decode cX1_isDigit 22 = .ok (.iaload, 1) := by decide +kernel
theorem dX1_isDigit_23 : decode cX1_isDigit 23 = .ok (.bipush 57, 2) := by decide +kernel
theorem dX1_isDigit_25 : decode cX1_isDigit 25 = .ok (.if_icmp .gt 7, 3) := by decide +kernel
theorem dX1_isDigit_28 : decode cX1_isDigit 28 = .ok (.iconst 1, 1) := by decide +kernel
theorem dX1_isDigit_29 : decode cX1_isDigit 29 = .ok (.goto 4, 3) := by decide +kernel
theorem dX1_isDigit_32 : decode cX1_isDigit 32 = .ok (.iconst 0, 1) := by decide +kernel
theorem dX1_isDigit_33 : decode cX1_isDigit 33 = .ok (.ireturn, 1) := by decide +kernel
theorem dX2_init_0 : decode cX2_init 0 = .ok (.aload_n 0, 1) := by decide +kernel
theorem dX2_init_1 : decode cX2_init 1 = .ok (.invokespecial 3, 3) := by decide +kernel
theorem dX2_init_4 : decode cX2_init 4 = .ok (.aload_n 0, 1) := by decide +kernel
theorem dX2_init_5 : decode cX2_init 5 = .ok (.iconst 4, 1) := by decide +kernel
theorem dX2_init_6 : decode cX2_init 6 = .ok (.newarray .int, 2) := by decide +kernel
theorem dX2_init_8 : decode cX2_init 8 = .ok (.putfield 9, 3) := by decide +kernel
theorem dX2_init_11 : decode cX2_init 11 = .ok (.aload_n 0, 1) := by decide +kernel
theorem dX2_init_12 : decode cX2_init 12 = .ok (.iconst 4, 1) := by decide +kernel
theorem dX2_init_13 : decode cX2_init 13 = .ok (.newarray .int, 2) := by decide +kernel
theorem dX2_init_15 : decode cX2_init 15 = .ok (.putfield 15, 3) := by decide +kernel
theorem dX2_init_18 : decode cX2_init 18 = .ok (.aload_n 0, 1) := by decide +kernel
theorem dX2_init_19 : decode cX2_init 19 = .ok (.sipush 160, 3) := by decide +kernel
theorem dX2_init_22 : decode cX2_init 22 = .ok (.newarray .int, 2) := by decide +kernel
theorem dX2_init_24 : decode cX2_init 24 = .ok (.putfield 18, 3) := by decide +kernel
theorem dX2_init_27 : decode cX2_init 27 = .ok (.return_, 1) := by decide +kernel
theorem dX2_isMissing_0 : decode cX2_isMissing 0 = .ok (.aload_n 0, 1) := by decide +kernel
theorem dX2_isMissing_1 : decode cX2_isMissing 1 = .ok (.getfield 9, 3) := by decide +kernel
theorem dX2_isMissing_4 : decode cX2_isMissing 4 = .ok (.iload_n 1, 1) := by decide +kernel
theorem dX2_isMissing_5 : decode cX2_isMissing 5 = .ok (.iaload, 1) := by decide +kernel
theorem dX2_isMissing_6 : decode cX2_isMissing 6 = .ok (.ifCond .ne 7, 3) := by decide +kernel
theorem dX2_isMissing_9 : decode cX2_isMissing 9 = .ok (.iconst 1, 1) := by decide +kernel
theorem dX2_isMissing_10 : decode cX2_isMissing 10 = .ok (.goto 4, 3) := by decide +kernel
theorem dX2_isMissing_13 : decode cX2_isMissing 13 = .ok (.iconst 0, 1) := by decide +kernel
theorem dX2_isMissing_14 : decode cX2_isMissing 14 = .ok (.ireturn, 1) := by decide +kernel
theorem dX2_lay_0 : decode cX2_lay 0 = .ok (.aload_n 0, 1) := by decide +kernel
theorem dX2_lay_1 : decode cX2_lay 1 = .ok (.getfield 9, 3) := by decide +kernel
theorem dX2_lay_4 : decode cX2_lay 4 = .ok (.iload_n 1, 1) := by decide +kernel
theorem dX2_lay_5 : decode cX2_lay 5 = .ok (.iload_n 2, 1) := by decide +kernel
theorem dX2_lay_6 : decode cX2_lay 6 = .ok (.iastore, 1) := by decide +kernel
theorem dX2_lay_7 : decode cX2_lay 7 = .ok (.aload_n 0, 1) := by decide +kernel
theorem dX2_lay_8 : decode cX2_lay 8 = .ok (.getfield 15, 3) := by decide +kernel
theorem dX2_lay_11 : decode cX2_lay 11 = .ok (.iload_n 1, 1) := by decide +kernel
theorem dX2_lay_12 : decode cX2_lay 12 = .ok (.iload_n 3, 1) := by decide +kernel
theorem dX2_lay_13 : decode cX2_lay 13 = .ok (.iastore, 1) := by decide +kernel
theorem dX2_lay_14 : decode cX2_lay 14 = .ok (.iconst 0, 1) := by decide +kernel
theorem dX2_lay_15 : decode cX2_lay 15 = .ok (.istore 4, 2) := by decide +kernel
theorem dX2_lay_17 : decode cX2_lay 17 = .ok (.iload 4, 2) := by decide +kernel
theorem dX2_lay_19 : decode cX2_lay 19 = .ok (.iload_n 3, 1) := by decide +kernel
theorem dX2_lay_20 : decode cX2_lay 20 = .ok (.if_icmp .ge 22, 3) := by decide +kernel
theorem dX2_lay_23 : decode cX2_lay 23 = .ok (.aload_n 0, 1) := by decide +kernel
theorem dX2_lay_24 : decode cX2_lay 24 = .ok (.getfield 18, 3) := by decide +kernel
theorem dX2_lay_27 : decode cX2_lay 27 = .ok (.bipush 40, 2) := by decide +kernel
theorem dX2_lay_29 : decode cX2_lay 29 = .ok (.iload_n 1, 1) := by decide +kernel
theorem dX2_lay_30 : decode cX2_lay 30 = .ok (.imul, 1) := by decide +kernel
theorem dX2_lay_31 : decode cX2_lay 31 = .ok (.iload 4, 2) := by decide +kernel
theorem dX2_lay_33 : decode cX2_lay 33 = .ok (.iadd, 1) := by decide +kernel
theorem dX2_lay_34 : decode cX2_lay 34 = .ok (.iconst 0, 1) := by decide +kernel
theorem dX2_lay_35 : decode cX2_lay 35 = .ok (.iastore, 1) := by decide +kernel
theorem dX2_lay_36 : decode cX2_lay 36 = .ok (.iinc 4 1, 3) := by decide +kernel
theorem dX2_lay_39 : decode cX2_lay 39 = .ok (.goto (-22), 3) := by decide +kernel
theorem dX2_lay_42 : decode cX2_lay 42 = .ok (.return_, 1) := by decide +kernel
theorem dX2_get_0 : decode cX2_get 0 = .ok (.aload_n 0, 1) := by decide +kernel
theorem dX2_get_1 : decode cX2_get 1 = .ok (.getfield 18, 3) := by decide +kernel
theorem dX2_get_4 : decode cX2_get 4 = .ok (.bipush 40, 2) := by decide +kernel
theorem dX2_get_6 : decode cX2_get 6 = .ok (.iload_n 1, 1) := by decide +kernel
theorem dX2_get_7 : decode cX2_get 7 = .ok (.imul, 1) := by decide +kernel
theorem dX2_get_8 : decode cX2_get 8 = .ok (.iload_n 2, 1) := by decide +kernel
theorem dX2_get_9 : decode cX2_get 9 = .ok (.iadd, 1) := by decide +kernel
theorem dX2_get_10 : decode cX2_get 10 = .ok (.iaload, 1) := by decide +kernel
theorem dX2_get_11 : decode cX2_get 11 = .ok (.ireturn, 1) := by decide +kernel
theorem dX2_put_0 : decode cX2_put 0 = .ok (.aload_n 0, 1) := by decide +kernel
theorem dX2_put_1 : decode cX2_put 1 = .ok (.getfield 18, 3) := by decide +kernel
theorem dX2_put_4 : decode cX2_put 4 = .ok (.bipush 40, 2) := by decide +kernel
theorem dX2_put_6 : decode cX2_put 6 = .ok (.iload_n 1, 1) := by decide +kernel
theorem dX2_put_7 : decode cX2_put 7 = .ok (.imul, 1) := by decide +kernel
theorem dX2_put_8 : decode cX2_put 8 = .ok (.iload_n 2, 1) := by decide +kernel
theorem dX2_put_9 : decode cX2_put 9 = .ok (.iadd, 1) := by decide +kernel
theorem dX2_put_10 : decode cX2_put 10 = .ok (.aload_n 0, 1) := by decide +kernel
theorem dX2_put_11 : decode cX2_put 11 = .ok (.getfield 9, 3) := by decide +kernel
theorem dX2_put_14 : decode cX2_put 14 = .ok (.iload_n 1, 1) := by decide +kernel
theorem dX2_put_15 : decode cX2_put 15 = .ok (.iaload, 1) := by decide +kernel
theorem dX2_put_16 : decode cX2_put 16 = .ok (.iload_n 3, 1) := by decide +kernel
theorem dX2_put_17 : decode cX2_put 17 = .ok (.invokestatic 21, 3) := by decide +kernel
theorem dX2_put_20 : decode cX2_put 20 = .ok (.iastore, 1) := by decide +kernel
theorem dX2_put_21 : decode cX2_put 21 = .ok (.return_, 1) := by decide +kernel
theorem dX2_lowest_0 : decode cX2_lowest 0 = .ok (.iload_n 0, 1) := by decide +kernel
theorem dX2_lowest_1 : decode cX2_lowest 1 = .ok (.lookupswitch 33 #[(8, 27), (16, 30)], 27) := by decide +kernel
theorem dX2_lowest_28 : decode cX2_lowest 28 = .ok (.iload_n 1, 1) := by decide +kernel
theorem dX2_lowest_29 : decode cX2_lowest 29 = .ok (.i2b, 1) := by decide +kernel
theorem dX2_lowest_30 : decode cX2_lowest 30 = .ok (.ireturn, 1) := by decide +kernel
theorem dX2_lowest_31 : decode cX2_lowest 31 = .ok (.iload_n 1, 1) := by decide +kernel
theorem dX2_lowest_32 : decode cX2_lowest 32 = .ok (.i2s, 1) := by decide +kernel
theorem dX2_lowest_33 : decode cX2_lowest 33 = .ok (.ireturn, 1) := by decide +kernel
theorem dX2_lowest_34 : decode cX2_lowest 34 = .ok (.iload_n 1, 1) := by decide +kernel
theorem dX2_lowest_35 : decode cX2_lowest 35 = .ok (.ireturn, 1) := by decide +kernel
theorem dX2_hasRun_0 : decode cX2_hasRun 0 = .ok (.iload_n 2, 1) := by decide +kernel
theorem dX2_hasRun_1 : decode cX2_hasRun 1 = .ok (.ifCond .lt 33, 3) := by decide +kernel
theorem dX2_hasRun_4 : decode cX2_hasRun 4 = .ok (.iload_n 3, 1) := by decide +kernel
theorem dX2_hasRun_5 : decode cX2_hasRun 5 = .ok (.ifCond .lt 29, 3) := by decide +kernel
theorem dX2_hasRun_8 : decode cX2_hasRun 8 = .ok (.iload_n 2, 1) := by decide +kernel
theorem dX2_hasRun_9 : decode cX2_hasRun 9 = .ok (.aload_n 0, 1) := by decide +kernel
theorem dX2_hasRun_10 : decode cX2_hasRun 10 = .ok (.getfield 15, 3) := by decide +kernel
theorem dX2_hasRun_13 : decode cX2_hasRun 13 = .ok (.iload_n 1, 1) := by decide +kernel
theorem dX2_hasRun_14 : decode cX2_hasRun 14 = .ok (.iaload, 1) := by decide +kernel
theorem dX2_hasRun_15 : decode cX2_hasRun 15 = .ok (.if_icmp .gt 19, 3) := by decide +kernel
theorem dX2_hasRun_18 : decode cX2_hasRun 18 = .ok (.iload_n 3, 1) := by decide +kernel
theorem dX2_hasRun_19 : decode cX2_hasRun 19 = .ok (.aload_n 0, 1) := by decide +kernel
theorem dX2_hasRun_20 : decode cX2_hasRun 20 = .ok (.getfield 15, 3) := by decide +kernel
theorem dX2_hasRun_23 : decode cX2_hasRun 23 = .ok (.iload_n 1, 1) := by decide +kernel
theorem dX2_hasRun_24 : decode cX2_hasRun 24 = .ok (.iaload, 1) := by decide +kernel
theorem dX2_hasRun_25 : decode cX2_hasRun 25 = .ok (.iload_n 2, 1) := by decide +kernel
theorem dX2_hasRun_26 : decode cX2_hasRun 26 = .ok (.isub, 1) := by decide +kernel
theorem dX2_hasRun_27 : decode cX2_hasRun 27 = .ok (.if_icmp .gt 7, 3) := by decide +kernel
theorem dX2_hasRun_30 : decode cX2_hasRun 30 = .ok (.iconst 1, 1) := by decide +kernel
theorem dX2_hasRun_31 : decode cX2_hasRun 31 = .ok (.goto 4, 3) := by decide +kernel
theorem dX2_hasRun_34 : decode cX2_hasRun 34 = .ok (.iconst 0, 1) := by decide +kernel
theorem dX2_hasRun_35 : decode cX2_hasRun 35 = .ok (.ireturn, 1) := by decide +kernel
theorem dX2_move_0 : decode cX2_move 0 = .ok (.aload_n 0, 1) := by decide +kernel
theorem dX2_move_1 : decode cX2_move 1 = .ok (.getfield 18, 3) := by decide +kernel
theorem dX2_move_4 : decode cX2_move 4 = .ok (.bipush 40, 2) := by decide +kernel
theorem dX2_move_6 : decode cX2_move 6 = .ok (.iload_n 1, 1) := by decide +kernel
theorem dX2_move_7 : decode cX2_move 7 = .ok (.imul, 1) := by decide +kernel
theorem dX2_move_8 : decode cX2_move 8 = .ok (.iload_n 2, 1) := by decide +kernel
theorem dX2_move_9 : decode cX2_move 9 = .ok (.iadd, 1) := by decide +kernel
theorem dX2_move_10 : decode cX2_move 10 = .ok (.aload_n 0, 1) := by decide +kernel
theorem dX2_move_11 : decode cX2_move 11 = .ok (.getfield 18, 3) := by decide +kernel
theorem dX2_move_14 : decode cX2_move 14 = .ok (.bipush 40, 2) := by decide +kernel
theorem dX2_move_16 : decode cX2_move 16 = .ok (.iload_n 3, 1) := by decide +kernel
theorem dX2_move_17 : decode cX2_move 17 = .ok (.imul, 1) := by decide +kernel
theorem dX2_move_18 : decode cX2_move 18 = .ok (.iload 4, 2) := by decide +kernel
theorem dX2_move_20 : decode cX2_move 20 = .ok (.iadd, 1) := by decide +kernel
theorem dX2_move_21 : decode cX2_move 21 = .ok (.iload 5, 2) := by decide +kernel
theorem dX2_move_23 : decode cX2_move 23 = .ok (.invokestatic 25, 3) := by decide +kernel
theorem dX2_move_26 : decode cX2_move 26 = .ok (.return_, 1) := by decide +kernel
theorem dX3_init_0 : decode cX3_init 0 = .ok (.aload_n 0, 1) := by decide +kernel
theorem dX3_init_1 : decode cX3_init 1 = .ok (.invokespecial 3, 3) := by decide +kernel
theorem dX3_init_4 : decode cX3_init 4 = .ok (.aload_n 0, 1) := by decide +kernel
theorem dX3_init_5 : decode cX3_init 5 = .ok (.bipush 120, 2) := by decide +kernel
theorem dX3_init_7 : decode cX3_init 7 = .ok (.newarray .int, 2) := by decide +kernel
theorem dX3_init_9 : decode cX3_init 9 = .ok (.putfield 9, 3) := by decide +kernel
theorem dX3_init_12 : decode cX3_init 12 = .ok (.return_, 1) := by decide +kernel
theorem dX3_append_0 : decode cX3_append 0 = .ok (.aload_n 0, 1) := by decide +kernel
theorem dX3_append_1 : decode cX3_append 1 = .ok (.getfield 15, 3) := by decide +kernel
theorem dX3_append_4 : decode cX3_append 4 = .ok (.bipush 120, 2) := by decide +kernel
theorem dX3_append_6 : decode cX3_append 6 = .ok (.if_icmp .ge 23, 3) := by decide +kernel
theorem dX3_append_9 : decode cX3_append 9 = .ok (.aload_n 0, 1) := by decide +kernel
theorem dX3_append_10 : decode cX3_append 10 = .ok (.getfield 9, 3) := by decide +kernel
theorem dX3_append_13 : decode cX3_append 13 = .ok (.aload_n 0, 1) := by decide +kernel
theorem dX3_append_14 : decode cX3_append 14 = .ok (.getfield 15, 3) := by decide +kernel
theorem dX3_append_17 : decode cX3_append 17 = .ok (.iload_n 1, 1) := by decide +kernel
theorem dX3_append_18 : decode cX3_append 18 = .ok (.iastore, 1) := by decide +kernel
theorem dX3_append_19 : decode cX3_append 19 = .ok (.aload_n 0, 1) := by decide +kernel
theorem dX3_append_20 : decode cX3_append 20 = .ok (.dup, 1) := by decide +kernel
theorem dX3_append_21 : decode cX3_append 21 = .ok (.getfield 15, 3) := by decide +kernel
theorem dX3_append_24 : decode cX3_append 24 = .ok (.iconst 1, 1) := by decide +kernel
theorem dX3_append_25 : decode cX3_append 25 = .ok (.iadd, 1) := by decide +kernel
theorem dX3_append_26 : decode cX3_append 26 = .ok (.putfield 15, 3) := by decide +kernel
theorem dX3_append_29 : decode cX3_append 29 = .ok (.return_, 1) := by decide +kernel
theorem dJ6_bitCount_0f7a4_0 : decode cJ6_bitCount_0f7a4 0 = .ok (.iload_n 0, 1) := by decide +kernel
theorem dJ6_bitCount_0f7a4_1 : decode cJ6_bitCount_0f7a4 1 = .ok (.iload_n 0, 1) := by decide +kernel
theorem dJ6_bitCount_0f7a4_2 : decode cJ6_bitCount_0f7a4 2 = .ok (.iconst 1, 1) := by decide +kernel
theorem dJ6_bitCount_0f7a4_3 : decode cJ6_bitCount_0f7a4 3 = .ok (.iushr, 1) := by decide +kernel
theorem dJ6_bitCount_0f7a4_4 : decode cJ6_bitCount_0f7a4 4 = .ok (.ldc_w 265, 3) := by decide +kernel
theorem dJ6_bitCount_0f7a4_7 : decode cJ6_bitCount_0f7a4 7 = .ok (.iand, 1) := by decide +kernel
theorem dJ6_bitCount_0f7a4_8 : decode cJ6_bitCount_0f7a4 8 = .ok (.isub, 1) := by decide +kernel
theorem dJ6_bitCount_0f7a4_9 : decode cJ6_bitCount_0f7a4 9 = .ok (.istore_n 0, 1) := by decide +kernel
theorem dJ6_bitCount_0f7a4_10 : decode cJ6_bitCount_0f7a4 10 = .ok (.iload_n 0, 1) := by decide +kernel
theorem dJ6_bitCount_0f7a4_11 : decode cJ6_bitCount_0f7a4 11 = .ok (.ldc_w 266, 3) := by decide +kernel
theorem dJ6_bitCount_0f7a4_14 : decode cJ6_bitCount_0f7a4 14 = .ok (.iand, 1) := by decide +kernel
theorem dJ6_bitCount_0f7a4_15 : decode cJ6_bitCount_0f7a4 15 = .ok (.iload_n 0, 1) := by decide +kernel
theorem dJ6_bitCount_0f7a4_16 : decode cJ6_bitCount_0f7a4 16 = .ok (.iconst 2, 1) := by decide +kernel
theorem dJ6_bitCount_0f7a4_17 : decode cJ6_bitCount_0f7a4 17 = .ok (.iushr, 1) := by decide +kernel
theorem dJ6_bitCount_0f7a4_18 : decode cJ6_bitCount_0f7a4 18 = .ok (.ldc_w 266, 3) := by decide +kernel
theorem dJ6_bitCount_0f7a4_21 : decode cJ6_bitCount_0f7a4 21 = .ok (.iand, 1) := by decide +kernel
theorem dJ6_bitCount_0f7a4_22 : decode cJ6_bitCount_0f7a4 22 = .ok (.iadd, 1) := by decide +kernel
theorem dJ6_bitCount_0f7a4_23 : decode cJ6_bitCount_0f7a4 23 = .ok (.istore_n 0, 1) := by decide +kernel
theorem dJ6_bitCount_0f7a4_24 : decode cJ6_bitCount_0f7a4 24 = .ok (.iload_n 0, 1) := by decide +kernel
theorem dJ6_bitCount_0f7a4_25 : decode cJ6_bitCount_0f7a4 25 = .ok (.iload_n 0, 1) := by decide +kernel
theorem dJ6_bitCount_0f7a4_26 : decode cJ6_bitCount_0f7a4 26 = .ok (.iconst 4, 1) := by decide +kernel
theorem dJ6_bitCount_0f7a4_27 : decode cJ6_bitCount_0f7a4 27 = .ok (.iushr, 1) := by decide +kernel
theorem dJ6_bitCount_0f7a4_28 : decode cJ6_bitCount_0f7a4 28 = .ok (.iadd, 1) := by decide +kernel
theorem dJ6_bitCount_0f7a4_29 : decode cJ6_bitCount_0f7a4 29 = .ok (.ldc_w 267, 3) := by decide +kernel
theorem dJ6_bitCount_0f7a4_32 : decode cJ6_bitCount_0f7a4 32 = .ok (.iand, 1) := by decide +kernel
theorem dJ6_bitCount_0f7a4_33 : decode cJ6_bitCount_0f7a4 33 = .ok (.istore_n 0, 1) := by decide +kernel
theorem dJ6_bitCount_0f7a4_34 : decode cJ6_bitCount_0f7a4 34 = .ok (.iload_n 0, 1) := by decide +kernel
theorem dJ6_bitCount_0f7a4_35 : decode cJ6_bitCount_0f7a4 35 = .ok (.iload_n 0, 1) := by decide +kernel
theorem dJ6_bitCount_0f7a4_36 : decode cJ6_bitCount_0f7a4 36 = .ok (.bipush 8, 2) := by decide +kernel
theorem dJ6_bitCount_0f7a4_38 : decode cJ6_bitCount_0f7a4 38 = .ok (.iushr, 1) := by decide +kernel
theorem dJ6_bitCount_0f7a4_39 : decode cJ6_bitCount_0f7a4 39 = .ok (.iadd, 1) := by decide +kernel
theorem dJ6_bitCount_0f7a4_40 : decode cJ6_bitCount_0f7a4 40 = .ok (.istore_n 0, 1) := by decide +kernel
theorem dJ6_bitCount_0f7a4_41 : decode cJ6_bitCount_0f7a4 41 = .ok (.iload_n 0, 1) := by decide +kernel
theorem dJ6_bitCount_0f7a4_42 : decode cJ6_bitCount_0f7a4 42 = .ok (.iload_n 0, 1) := by decide +kernel
theorem dJ6_bitCount_0f7a4_43 : decode cJ6_bitCount_0f7a4 43 = .ok (.bipush 16, 2) := by decide +kernel
theorem dJ6_bitCount_0f7a4_45 : decode cJ6_bitCount_0f7a4 45 = .ok (.iushr, 1) := by decide +kernel
theorem dJ6_bitCount_0f7a4_46 : decode cJ6_bitCount_0f7a4 46 = .ok (.iadd, 1) := by decide +kernel
theorem dJ6_bitCount_0f7a4_47 : decode cJ6_bitCount_0f7a4 47 = .ok (.istore_n 0, 1) := by decide +kernel
theorem dJ6_bitCount_0f7a4_48 : decode cJ6_bitCount_0f7a4 48 = .ok (.iload_n 0, 1) := by decide +kernel
theorem dJ6_bitCount_0f7a4_49 : decode cJ6_bitCount_0f7a4 49 = .ok (.bipush 63, 2) := by decide +kernel
theorem dJ6_bitCount_0f7a4_51 : decode cJ6_bitCount_0f7a4 51 = .ok (.iand, 1) := by decide +kernel
theorem dJ6_bitCount_0f7a4_52 : decode cJ6_bitCount_0f7a4 52 = .ok (.ireturn, 1) := by decide +kernel
theorem dJ9_abs_0f7a4_0 : decode cJ9_abs_0f7a4 0 = .ok (.iload_n 0, 1) := by decide +kernel
theorem dJ9_abs_0f7a4_1 : decode cJ9_abs_0f7a4 1 = .ok (.ifCond .ge 8, 3) := by decide +kernel
theorem dJ9_abs_0f7a4_4 : decode cJ9_abs_0f7a4 4 = .ok (.iload_n 0, 1) := by decide +kernel
theorem dJ9_abs_0f7a4_5 : decode cJ9_abs_0f7a4 5 = .ok (.ineg, 1) := by decide +kernel
theorem dJ9_abs_0f7a4_6 : decode cJ9_abs_0f7a4 6 = .ok (.goto 4, 3) := by decide +kernel
theorem dJ9_abs_0f7a4_9 : decode cJ9_abs_0f7a4 9 = .ok (.iload_n 0, 1) := by decide +kernel
theorem dJ9_abs_0f7a4_10 : decode cJ9_abs_0f7a4 10 = .ok (.ireturn, 1) := by decide +kernel
theorem dJ9_max_7cf53_0 : decode cJ9_max_7cf53 0 = .ok (.iload_n 0, 1) := by decide +kernel
theorem dJ9_max_7cf53_1 : decode cJ9_max_7cf53 1 = .ok (.iload_n 1, 1) := by decide +kernel
theorem dJ9_max_7cf53_2 : decode cJ9_max_7cf53 2 = .ok (.if_icmp .lt 7, 3) := by decide +kernel
theorem dJ9_max_7cf53_5 : decode cJ9_max_7cf53 5 = .ok (.iload_n 0, 1) := by decide +kernel
theorem dJ9_max_7cf53_6 : decode cJ9_max_7cf53 6 = .ok (.goto 4, 3) := by decide +kernel
theorem dJ9_max_7cf53_9 : decode cJ9_max_7cf53 9 = .ok (.iload_n 1, 1) := by decide +kernel
theorem dJ9_max_7cf53_10 : decode cJ9_max_7cf53 10 = .ok (.ireturn, 1) := by decide +kernel
theorem dJ9_min_7cf53_0 : decode cJ9_min_7cf53 0 = .ok (.iload_n 0, 1) := by decide +kernel
theorem dJ9_min_7cf53_1 : decode cJ9_min_7cf53 1 = .ok (.iload_n 1, 1) := by decide +kernel
theorem dJ9_min_7cf53_2 : decode cJ9_min_7cf53 2 = .ok (.if_icmp .gt 7, 3) := by decide +kernel
theorem dJ9_min_7cf53_5 : decode cJ9_min_7cf53 5 = .ok (.iload_n 0, 1) := by decide +kernel
theorem dJ9_min_7cf53_6 : decode cJ9_min_7cf53 6 = .ok (.goto 4, 3) := by decide +kernel
theorem dJ9_min_7cf53_9 : decode cJ9_min_7cf53 9 = .ok (.iload_n 1, 1) := by decide +kernel
theorem dJ9_min_7cf53_10 : decode cJ9_min_7cf53 10 = .ok (.ireturn, 1) := by decide +kernel
theorem dJ0_length_8abf5_0 : decode cJ0_length_8abf5 0 = .ok (.aload_n 0, 1) := by decide +kernel
theorem dJ0_length_8abf5_1 : decode cJ0_length_8abf5 1 = .ok (.getfield 9, 3) := by decide +kernel
theorem dJ0_length_8abf5_4 : decode cJ0_length_8abf5 4 = .ok (.arraylength, 1) := by decide +kernel
theorem dJ0_length_8abf5_5 : decode cJ0_length_8abf5 5 = .ok (.aload_n 0, 1) := by decide +kernel
theorem dJ0_length_8abf5_6 : decode cJ0_length_8abf5 6 = .ok (.invokevirtual 335, 3) := by decide +kernel
theorem dJ0_length_8abf5_9 : decode cJ0_length_8abf5 9 = .ok (.ishr, 1) := by decide +kernel
theorem dJ0_length_8abf5_10 : decode cJ0_length_8abf5 10 = .ok (.ireturn, 1) := by decide +kernel
theorem dJ0_charAt_5068e_0 : decode cJ0_charAt_5068e 0 = .ok (.aload_n 0, 1) := by decide +kernel
theorem dJ0_charAt_5068e_1 : decode cJ0_charAt_5068e 1 = .ok (.invokevirtual 492, 3) := by decide +kernel
theorem dJ0_charAt_5068e_4 : decode cJ0_charAt_5068e 4 = .ok (.ifCond .eq 12, 3) := by decide +kernel
theorem dJ0_charAt_5068e_7 : decode cJ0_charAt_5068e 7 = .ok (.aload_n 0, 1) := by decide +kernel
theorem dJ0_charAt_5068e_8 : decode cJ0_charAt_5068e 8 = .ok (.getfield 9, 3) := by decide +kernel
theorem dJ0_charAt_5068e_11 : decode cJ0_charAt_5068e 11 = .ok (.iload_n 1, 1) := by decide +kernel
theorem dJ0_charAt_5068e_12 : decode cJ0_charAt_5068e 12 = .ok (.invokestatic 495, 3) := by decide +kernel
theorem dJ0_charAt_5068e_15 : decode cJ0_charAt_5068e 15 = .ok (.ireturn, 1) := by decide +kernel
theorem dJ0_charAt_5068e_16 : decode cJ0_charAt_5068e 16 = .ok (.aload_n 0, 1) := by decide +kernel
theorem dJ0_charAt_5068e_17 : decode cJ0_charAt_5068e 17 = .ok (.getfield 9, 3) := by decide +kernel
theorem dJ0_charAt_5068e_20 : decode cJ0_charAt_5068e 20 = .ok (.iload_n 1, 1) := by decide +kernel
theorem dJ0_charAt_5068e_21 : decode cJ0_charAt_5068e 21 = .ok (.invokestatic 498, 3) := by decide +kernel
theorem dJ0_charAt_5068e_24 : decode cJ0_charAt_5068e 24 = .ok (.ireturn, 1) := by decide +kernel
theorem dJ0_coder_7d493_0 : decode cJ0_coder_7d493 0 = .ok (.getstatic 38, 3) := by decide +kernel
theorem dJ0_coder_7d493_3 : decode cJ0_coder_7d493 3 = .ok (.ifCond .eq 10, 3) := by decide +kernel
theorem dJ0_coder_7d493_6 : decode cJ0_coder_7d493 6 = .ok (.aload_n 0, 1) := by decide +kernel
theorem dJ0_coder_7d493_7 : decode cJ0_coder_7d493 7 = .ok (.getfield 15, 3) := by decide +kernel
theorem dJ0_coder_7d493_10 : decode cJ0_coder_7d493 10 = .ok (.goto 4, 3) := by decide +kernel
theorem dJ0_coder_7d493_13 : decode cJ0_coder_7d493 13 = .ok (.iconst 1, 1) := by decide +kernel
theorem dJ0_coder_7d493_14 : decode cJ0_coder_7d493 14 = .ok (.ireturn, 1) := by decide +kernel
theorem dJ0_isLatin1_aae02_0 : decode cJ0_isLatin1_aae02 0 = .ok (.getstatic 38, 3) := by decide +kernel
theorem dJ0_isLatin1_aae02_3 : decode cJ0_isLatin1_aae02 3 = .ok (.ifCond .eq 14, 3) := by decide +kernel
theorem dJ0_isLatin1_aae02_6 : decode cJ0_isLatin1_aae02 6 = .ok (.aload_n 0, 1) := by decide +kernel
theorem dJ0_isLatin1_aae02_7 : decode cJ0_isLatin1_aae02 7 = .ok (.getfield 15, 3) := by decide +kernel
theorem dJ0_isLatin1_aae02_10 : decode cJ0_isLatin1_aae02 10 = .ok (.ifCond .ne 7, 3) := by decide +kernel
theorem dJ0_isLatin1_aae02_13 : decode cJ0_isLatin1_aae02 13 = .ok (.iconst 1, 1) := by decide +kernel
theorem dJ0_isLatin1_aae02_14 : decode cJ0_isLatin1_aae02 14 = .ok (.goto 4, 3) := by decide +kernel
theorem dJ0_isLatin1_aae02_17 : decode cJ0_isLatin1_aae02 17 = .ok (.iconst 0, 1) := by decide +kernel
theorem dJ0_isLatin1_aae02_18 : decode cJ0_isLatin1_aae02 18 = .ok (.ireturn, 1) := by decide +kernel
theorem dJ0_checkIndex_df160_0 : decode cJ0_checkIndex_df160 0 = .ok (.iload_n 0, 1) := by decide +kernel
theorem dJ0_checkIndex_df160_1 : decode cJ0_checkIndex_df160 1 = .ok (.iload_n 1, 1) := by decide +kernel
theorem dJ0_checkIndex_df160_2 : decode cJ0_checkIndex_df160 2 = .ok (.getstatic 1053, 3) := by decide +kernel
theorem dJ0_checkIndex_df160_5 : decode cJ0_checkIndex_df160 5 = .ok (.invokestatic 1059, 3) := by decide +kernel
theorem dJ0_checkIndex_df160_8 : decode cJ0_checkIndex_df160 8 = .ok (.pop, 1) := by decide +kernel
theorem dJ0_checkIndex_df160_9 : decode cJ0_checkIndex_df160 9 = .ok (.return_, 1) := by decide +kernel
theorem dJ1_charAt_3b067_0 : decode cJ1_charAt_3b067 0 = .ok (.iload_n 1, 1) := by decide +kernel
theorem dJ1_charAt_3b067_1 : decode cJ1_charAt_3b067 1 = .ok (.aload_n 0, 1) := by decide +kernel
theorem dJ1_charAt_3b067_2 : decode cJ1_charAt_3b067 2 = .ok (.arraylength, 1) := by decide +kernel
theorem dJ1_charAt_3b067_3 : decode cJ1_charAt_3b067 3 = .ok (.invokestatic 9, 3) := by decide +kernel
theorem dJ1_charAt_3b067_6 : decode cJ1_charAt_3b067 6 = .ok (.aload_n 0, 1) := by decide +kernel
theorem dJ1_charAt_3b067_7 : decode cJ1_charAt_3b067 7 = .ok (.iload_n 1, 1) := by decide +kernel
theorem dJ1_charAt_3b067_8 : decode cJ1_charAt_3b067 8 = .ok (.baload, 1) := by decide +kernel
theorem dJ1_charAt_3b067_9 : decode cJ1_charAt_3b067 9 = .ok (.sipush 255, 3) := by decide +kernel
theorem dJ1_charAt_3b067_12 : decode cJ1_charAt_3b067 12 = .ok (.iand, 1) := by decide +kernel
theorem dJ1_charAt_3b067_13 : decode cJ1_charAt_3b067 13 = .ok (.i2c, 1) := by decide +kernel
theorem dJ1_charAt_3b067_14 : decode cJ1_charAt_3b067 14 = .ok (.ireturn, 1) := by decide +kernel
theorem dJ2_getChar_3b067_0 : decode cJ2_getChar_3b067 0 = .ok (.getstatic 44, 3) := by decide +kernel
theorem dJ2_getChar_3b067_3 : decode cJ2_getChar_3b067 3 = .ok (.ifCond .ne 25, 3) := by decide +kernel
theorem dJ2_getChar_3b067_6 : decode cJ2_getChar_3b067 6 = .ok (.iload_n 1, 1) := by decide +kernel
theorem dJ2_getChar_3b067_7 : decode cJ2_getChar_3b067 7 = .ok (.ifCond .lt 11, 3) := by decide +kernel
theorem dJ2_getChar_3b067_10 : decode cJ2_getChar_3b067 10 = .ok (.iload_n 1, 1) := by decide +kernel
theorem dJ2_getChar_3b067_11 : decode cJ2_getChar_3b067 11 = .ok (.aload_n 0, 1) := by decide +kernel
theorem dJ2_getChar_3b067_12 : decode cJ2_getChar_3b067 12 = .ok (.invokestatic 48, 3) := by decide +kernel
theorem dJ2_getChar_3b067_15 : decode cJ2_getChar_3b067 15 = .ok (.if_icmp .lt 13, 3) := by decide +kernel
theorem dJ2_getChar_3b067_18 : decode cJ2_getChar_3b067 18 = .ok (.new 52, 3) := by decide +kernel
theorem dJ2_getChar_3b067_21 : decode cJ2_getChar_3b067 21 = .ok (.dup, 1) := by decide +kernel
theorem dJ2_getChar_3b067_22 : decode cJ2_getChar_3b067 22 = .ok (.ldc 54, 2) := by decide +kernel
theorem dJ2_getChar_3b067_24 : decode cJ2_getChar_3b067 24 = .ok (.invokespecial 56, 3) := by decide +kernel
theorem dJ2_getChar_3b067_27 : decode cJ2_getChar_3b067 27 = .ok (.athrow, 1) := by decide +kernel
theorem dJ2_getChar_3b067_28 : decode cJ2_getChar_3b067 28 = .ok (.iload_n 1, 1) := by decide +kernel
theorem dJ2_getChar_3b067_29 : decode cJ2_getChar_3b067 29 = .ok (.iconst 1, 1) := by decide +kernel
theorem dJ2_getChar_3b067_30 : decode cJ2_getChar_3b067 30 = .ok (.ishl, 1) := by decide +kernel
theorem dJ2_getChar_3b067_31 : decode cJ2_getChar_3b067 31 = .ok (.istore_n 1, 1) := by decide +kernel
theorem dJ2_getChar_3b067_32 : decode cJ2_getChar_3b067 32 = .ok (.aload_n 0, 1) := by decide +kernel
theorem dJ2_getChar_3b067_33 : decode cJ2_getChar_3b067 33 = .ok (.iload_n 1, 1) := by decide +kernel
theorem dJ2_getChar_3b067_34 : decode cJ2_getChar_3b067 34 = .ok (.iinc 1 1, 3) := by decide +kernel
theorem dJ2_getChar_3b067_37 : decode cJ2_getChar_3b067 37 = .ok (.baload, 1) := by decide +kernel
theorem dJ2_getChar_3b067_38 : decode cJ2_getChar_3b067 38 = .ok (.sipush 255, 3) := by decide +kernel
theorem dJ2_getChar_3b067_41 : decode cJ2_getChar_3b067 41 = .ok (.iand, 1) := by decide +kernel
theorem dJ2_getChar_3b067_42 : decode cJ2_getChar_3b067 42 = .ok (.getstatic 59, 3) := by decide +kernel
theorem dJ2_getChar_3b067_45 : decode cJ2_getChar_3b067 45 = .ok (.ishl, 1) := by decide +kernel
theorem dJ2_getChar_3b067_46 : decode cJ2_getChar_3b067 46 = .ok (.aload_n 0, 1) := by decide +kernel
theorem dJ2_getChar_3b067_47 : decode cJ2_getChar_3b067 47 = .ok (.iload_n 1, 1) := by decide +kernel
theorem dJ2_getChar_3b067_48 : decode cJ2_getChar_3b067 48 = .ok (.baload, 1) := by decide +kernel
theorem dJ2_getChar_3b067_49 : decode cJ2_getChar_3b067 49 = .ok (.sipush 255, 3) := by decide +kernel
theorem dJ2_getChar_3b067_52 : decode cJ2_getChar_3b067 52 = .ok (.iand, 1) := by decide +kernel
theorem dJ2_getChar_3b067_53 : decode cJ2_getChar_3b067 53 = .ok (.getstatic 63, 3) := by decide +kernel
theorem dJ2_getChar_3b067_56 : decode cJ2_getChar_3b067 56 = .ok (.ishl, 1) := by decide +kernel
theorem dJ2_getChar_3b067_57 : decode cJ2_getChar_3b067 57 = .ok (.ior, 1) := by decide +kernel
theorem dJ2_getChar_3b067_58 : decode cJ2_getChar_3b067 58 = .ok (.i2c, 1) := by decide +kernel
theorem dJ2_getChar_3b067_59 : decode cJ2_getChar_3b067 59 = .ok (.ireturn, 1) := by decide +kernel
theorem dJ2_length_9d52b_0 : decode cJ2_length_9d52b 0 = .ok (.aload_n 0, 1) := by decide +kernel
theorem dJ2_length_9d52b_1 : decode cJ2_length_9d52b 1 = .ok (.arraylength, 1) := by decide +kernel
theorem dJ2_length_9d52b_2 : decode cJ2_length_9d52b 2 = .ok (.iconst 1, 1) := by decide +kernel
theorem dJ2_length_9d52b_3 : decode cJ2_length_9d52b 3 = .ok (.ishr, 1) := by decide +kernel
theorem dJ2_length_9d52b_4 : decode cJ2_length_9d52b 4 = .ok (.ireturn, 1) := by decide +kernel
theorem dJ2_charAt_3b067_0 : decode cJ2_charAt_3b067 0 = .ok (.iload_n 1, 1) := by decide +kernel
theorem dJ2_charAt_3b067_1 : decode cJ2_charAt_3b067 1 = .ok (.aload_n 0, 1) := by decide +kernel
theorem dJ2_charAt_3b067_2 : decode cJ2_charAt_3b067 2 = .ok (.invokestatic 67, 3) := by decide +kernel
theorem dJ2_charAt_3b067_5 : decode cJ2_charAt_3b067 5 = .ok (.aload_n 0, 1) := by decide +kernel
theorem dJ2_charAt_3b067_6 : decode cJ2_charAt_3b067 6 = .ok (.iload_n 1, 1) := by decide +kernel
theorem dJ2_charAt_3b067_7 : decode cJ2_charAt_3b067 7 = .ok (.invokestatic 71, 3) := by decide +kernel
theorem dJ2_charAt_3b067_10 : decode cJ2_charAt_3b067 10 = .ok (.ireturn, 1) := by decide +kernel
theorem dJ2_checkIndex_2214a_0 : decode cJ2_checkIndex_2214a 0 = .ok (.iload_n 0, 1) := by decide +kernel
theorem dJ2_checkIndex_2214a_1 : decode cJ2_checkIndex_2214a 1 = .ok (.aload_n 1, 1) := by decide +kernel
theorem dJ2_checkIndex_2214a_2 : decode cJ2_checkIndex_2214a 2 = .ok (.invokestatic 48, 3) := by decide +kernel
theorem dJ2_checkIndex_2214a_5 : decode cJ2_checkIndex_2214a 5 = .ok (.invokestatic 414, 3) := by decide +kernel
theorem dJ2_checkIndex_2214a_8 : decode cJ2_checkIndex_2214a 8 = .ok (.return_, 1) := by decide +kernel
theorem dJ7_fill_53178_0 : decode cJ7_fill_53178 0 = .ok (.iconst 0, 1) := by decide +kernel
theorem dJ7_fill_53178_1 : decode cJ7_fill_53178 1 = .ok (.istore_n 2, 1) := by decide +kernel
theorem dJ7_fill_53178_2 : decode cJ7_fill_53178 2 = .ok (.aload_n 0, 1) := by decide +kernel
theorem dJ7_fill_53178_3 : decode cJ7_fill_53178 3 = .ok (.arraylength, 1) := by decide +kernel
theorem dJ7_fill_53178_4 : decode cJ7_fill_53178 4 = .ok (.istore_n 3, 1) := by decide +kernel
theorem dJ7_fill_53178_5 : decode cJ7_fill_53178 5 = .ok (.iload_n 2, 1) := by decide +kernel
theorem dJ7_fill_53178_6 : decode cJ7_fill_53178 6 = .ok (.iload_n 3, 1) := by decide +kernel
theorem dJ7_fill_53178_7 : decode cJ7_fill_53178 7 = .ok (.if_icmp .ge 13, 3) := by decide +kernel
theorem dJ7_fill_53178_10 : decode cJ7_fill_53178 10 = .ok (.aload_n 0, 1) := by decide +kernel
theorem dJ7_fill_53178_11 : decode cJ7_fill_53178 11 = .ok (.iload_n 2, 1) := by decide +kernel
theorem dJ7_fill_53178_12 : decode cJ7_fill_53178 12 = .ok (.iload_n 1, 1) := by decide +kernel
theorem dJ7_fill_53178_13 : decode cJ7_fill_53178 13 = .ok (.iastore, 1) := by decide +kernel
theorem dJ7_fill_53178_14 : decode cJ7_fill_53178 14 = .ok (.iinc 2 1, 3) := by decide +kernel
theorem dJ7_fill_53178_17 : decode cJ7_fill_53178 17 = .ok (.goto (-12), 3) := by decide +kernel
theorem dJ7_fill_53178_20 : decode cJ7_fill_53178 20 = .ok (.return_, 1) := by decide +kernel
theorem dJ3_checkIndex_8e157_0 : decode cJ3_checkIndex_8e157 0 = .ok (.iload_n 0, 1) := by decide +kernel
theorem dJ3_checkIndex_8e157_1 : decode cJ3_checkIndex_8e157 1 = .ok (.ifCond .lt 8, 3) := by decide +kernel
theorem dJ3_checkIndex_8e157_4 : decode cJ3_checkIndex_8e157 4 = .ok (.iload_n 0, 1) := by decide +kernel
theorem dJ3_checkIndex_8e157_5 : decode cJ3_checkIndex_8e157 5 = .ok (.iload_n 1, 1) := by decide +kernel
theorem dJ3_checkIndex_8e157_6 : decode cJ3_checkIndex_8e157 6 = .ok (.if_icmp .lt 10, 3) := by decide +kernel
theorem dJ3_checkIndex_8e157_9 : decode cJ3_checkIndex_8e157 9 = .ok (.aload_n 2, 1) := by decide +kernel
theorem dJ3_checkIndex_8e157_10 : decode cJ3_checkIndex_8e157 10 = .ok (.iload_n 0, 1) := by decide +kernel
theorem dJ3_checkIndex_8e157_11 : decode cJ3_checkIndex_8e157 11 = .ok (.iload_n 1, 1) := by decide +kernel
theorem dJ3_checkIndex_8e157_12 : decode cJ3_checkIndex_8e157 12 = .ok (.invokestatic 95, 3) := by decide +kernel
theorem dJ3_checkIndex_8e157_15 : decode cJ3_checkIndex_8e157 15 = .ok (.athrow, 1) := by decide +kernel
theorem dJ3_checkIndex_8e157_16 : decode cJ3_checkIndex_8e157 16 = .ok (.iload_n 0, 1) := by decide +kernel
theorem dJ3_checkIndex_8e157_17 : decode cJ3_checkIndex_8e157 17 = .ok (.ireturn, 1) := by decide +kernel
