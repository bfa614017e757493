theorem dX5_init_0 : decode cX5_init 0 = .ok (.aload_n 0, 1) := by decide +kernel
theorem dX5_init_1 : decode cX5_init 1 = .ok (.invokespecial 1, 3) := by decide +kernel
theorem dX5_init_4 : decode cX5_init 4 = .ok (.aload_n 0, 1) := by decide +kernel
theorem dX5_init_5 : decode cX5_init 5 = .ok (.sipush 135, 3) := by decide +kernel
theorem dX5_init_8 : decode cX5_init 8 = .ok (.newarray .int, 2) := by decide +kernel
theorem dX5_init_10 : decode cX5_init 10 = .ok (.putfield 7, 3) := by decide +kernel
theorem dX5_init_13 : decode cX5_init 13 = .ok (.aload_n 0, 1) := by decide +kernel
theorem dX5_init_14 : decode cX5_init 14 = .ok (.sipush 135, 3) := by decide +kernel
theorem dX5_init_17 : decode cX5_init 17 = .ok (.newarray .int, 2) := by decide +kernel
theorem dX5_init_19 : decode cX5_init 19 = .ok (.putfield 13, 3) := by decide +kernel
theorem dX5_init_22 : decode cX5_init 22 = .ok (.aload_n 0, 1) := by decide +kernel
theorem dX5_init_23 : decode cX5_init 23 = .ok (.sipush 135, 3) := by decide +kernel
theorem dX5_init_26 : decode cX5_init 26 = .ok (.newarray .int, 2) := by decide +kernel
theorem dX5_init_28 : decode cX5_init 28 = .ok (.putfield 16, 3) := by decide +kernel
theorem dX5_init_31 : decode cX5_init 31 = .ok (.aload_n 0, 1) := by decide +kernel
theorem dX5_init_32 : decode cX5_init 32 = .ok (.sipush 135, 3) := by decide +kernel
theorem dX5_init_35 : decode cX5_init 35 = .ok (.newarray .int, 2) := by decide +kernel
theorem dX5_init_37 : decode cX5_init 37 = .ok (.putfield 19, 3) := by decide +kernel
theorem dX5_init_40 : decode cX5_init 40 = .ok (.aload_n 0, 1) := by decide +kernel
theorem dX5_init_41 : decode cX5_init 41 = .ok (.bipush 7, 2) := by decide +kernel
theorem dX5_init_43 : decode cX5_init 43 = .ok (.newarray .int, 2) := by decide +kernel
theorem dX5_init_45 : decode cX5_init 45 = .ok (.putfield 22, 3) := by decide +kernel
theorem dX5_init_48 : decode cX5_init 48 = .ok (.aload_n 0, 1) := by decide +kernel
theorem dX5_init_49 : decode cX5_init 49 = .ok (.bipush 120, 2) := by decide +kernel
theorem dX5_init_51 : decode cX5_init 51 = .ok (.newarray .byte, 2) := by decide +kernel
theorem dX5_init_53 : decode cX5_init 53 = .ok (.putfield 25, 3) := by decide +kernel
theorem dX5_init_56 : decode cX5_init 56 = .ok (.aload_n 0, 1) := by decide +kernel
theorem dX5_init_57 : decode cX5_init 57 = .ok (.iconst 4, 1) := by decide +kernel
theorem dX5_init_58 : decode cX5_init 58 = .ok (.newarray .int, 2) := by decide +kernel
theorem dX5_init_60 : decode cX5_init 60 = .ok (.putfield 29, 3) := by decide +kernel
theorem dX5_init_63 : decode cX5_init 63 = .ok (.aload_n 0, 1) := by decide +kernel
theorem dX5_init_64 : decode cX5_init 64 = .ok (.iconst 4, 1) := by decide +kernel
theorem dX5_init_65 : decode cX5_init 65 = .ok (.newarray .int, 2) := by decide +kernel
theorem dX5_init_67 : decode cX5_init 67 = .ok (.putfield 32, 3) := by decide +kernel
theorem dX5_init_70 : decode cX5_init 70 = .ok (.aload_n 0, 1) := by decide +kernel
theorem dX5_init_71 : decode cX5_init 71 = .ok (.sipush 160, 3) := by decide +kernel
theorem dX5_init_74 : decode cX5_init 74 = .ok (.newarray .int, 2) := by decide +kernel
theorem dX5_init_76 : decode cX5_init 76 = .ok (.putfield 35, 3) := by decide +kernel
theorem dX5_init_79 : decode cX5_init 79 = .ok (.aload_n 0, 1) := by decide +kernel
theorem dX5_init_80 : decode cX5_init 80 = .ok (.bipush 40, 2) := by decide +kernel
theorem dX5_init_82 : decode cX5_init 82 = .ok (.newarray .int, 2) := by decide +kernel
theorem dX5_init_84 : decode cX5_init 84 = .ok (.putfield 38, 3) := by decide +kernel
theorem dX5_init_87 : decode cX5_init 87 = .ok (.aload_n 0, 1) := by decide +kernel
theorem dX5_init_88 : decode cX5_init 88 = .ok (.getfield 7, 3) := by decide +kernel
theorem dX5_init_91 : decode cX5_init 91 = .ok (.iconst 2, 1) := by decide +kernel
theorem dX5_init_92 : decode cX5_init 92 = .ok (.iconst 1, 1) := by decide +kernel
theorem dX5_init_93 : decode cX5_init 93 = .ok (.iastore, 1) := by decide +kernel
theorem dX5_init_94 : decode cX5_init 94 = .ok (.aload_n 0, 1) := by decide +kernel
theorem dX5_init_95 : decode cX5_init 95 = .ok (.getfield 7, 3) := by decide +kernel
theorem dX5_init_98 : decode cX5_init 98 = .ok (.iconst 3, 1) := by decide +kernel
theorem dX5_init_99 : decode cX5_init 99 = .ok (.bipush 10, 2) := by decide +kernel
theorem dX5_init_101 : decode cX5_init 101 = .ok (.iastore, 1) := by decide +kernel
theorem dX5_init_102 : decode cX5_init 102 = .ok (.iconst 0, 1) := by decide +kernel
theorem dX5_init_103 : decode cX5_init 103 = .ok (.istore_n 1, 1) := by decide +kernel
theorem dX5_init_104 : decode cX5_init 104 = .ok (.iload_n 1, 1) := by decide +kernel
theorem dX5_init_105 : decode cX5_init 105 = .ok (.bipush 6, 2) := by decide +kernel
theorem dX5_init_107 : decode cX5_init 107 = .ok (.if_icmp .ge 19, 3) := by decide +kernel
theorem dX5_init_110 : decode cX5_init 110 = .ok (.aload_n 0, 1) := by decide +kernel
theorem dX5_init_111 : decode cX5_init 111 = .ok (.getfield 7, 3) := by decide +kernel
theorem dX5_init_114 : decode cX5_init 114 = .ok (.bipush 7, 2) := by decide +kernel
theorem dX5_init_116 : decode cX5_init 116 = .ok (.iload_n 1, 1) := by decide +kernel
theorem dX5_init_117 : decode cX5_init 117 = .ok (.iadd, 1) := by decide +kernel
theorem dX5_init_118 : decode cX5_init 118 = .ok (.iconst 1, 1) := by decide +kernel
theorem dX5_init_119 : decode cX5_init 119 = .ok (.iastore, 1) := by decide +kernel
theorem dX5_init_120 : decode cX5_init 120 = .ok (.iinc 1 1, 3) := by decide +kernel
theorem dX5_init_123 : decode cX5_init 123 = .ok (.goto (-19), 3) := by decide +kernel
theorem dX5_init_126 : decode cX5_init 126 = .ok (.iconst 0, 1) := by decide +kernel
theorem dX5_init_127 : decode cX5_init 127 = .ok (.istore_n 1, 1) := by decide +kernel
theorem dX5_init_128 : decode cX5_init 128 = .ok (.iload_n 1, 1) := by decide +kernel
theorem dX5_init_129 : decode cX5_init 129 = .ok (.bipush 64, 2) := by decide +kernel
theorem dX5_init_131 : decode cX5_init 131 = .ok (.if_icmp .ge 20, 3) := by decide +kernel
theorem dX5_init_134 : decode cX5_init 134 = .ok (.aload_n 0, 1) := by decide +kernel
theorem dX5_init_135 : decode cX5_init 135 = .ok (.getfield 7, 3) := by decide +kernel
theorem dX5_init_138 : decode cX5_init 138 = .ok (.bipush 61, 2) := by decide +kernel
theorem dX5_init_140 : decode cX5_init 140 = .ok (.iload_n 1, 1) := by decide +kernel
theorem dX5_init_141 : decode cX5_init 141 = .ok (.iadd, 1) := by decide +kernel
theorem dX5_init_142 : decode cX5_init 142 = .ok (.bipush 20, 2) := by decide +kernel
theorem dX5_init_144 : decode cX5_init 144 = .ok (.iastore, 1) := by decide +kernel
theorem dX5_init_145 : decode cX5_init 145 = .ok (.iinc 1 1, 3) := by decide +kernel
theorem dX5_init_148 : decode cX5_init 148 = .ok (.goto (-20), 3) := by decide +kernel
theorem dX5_init_151 : decode cX5_init 151 = .ok (.return_, 1) := by decide +kernel
theorem dX5_finds_0 : decode cX5_finds 0 = .ok (.aload_n 0, 1) := by decide +kernel
theorem dX5_finds_1 : decode cX5_finds 1 = .ok (.getfield 22, 3) := by decide +kernel
theorem dX5_finds_4 : decode cX5_finds 4 = .ok (.iload_n 1, 1) := by decide +kernel
theorem dX5_finds_5 : decode cX5_finds 5 = .ok (.dup2, 1) := by decide +kernel
theorem dX5_finds_6 : decode cX5_finds 6 = .ok (.iaload, 1) := by decide +kernel
theorem dX5_finds_7 : decode cX5_finds 7 = .ok (.iconst 1, 1) := by decide +kernel
theorem dX5_finds_8 : decode cX5_finds 8 = .ok (.iadd, 1) := by decide +kernel
theorem dX5_finds_9 : decode cX5_finds 9 = .ok (.iastore, 1) := by decide +kernel
theorem dX5_finds_10 : decode cX5_finds 10 = .ok (.ldc 41, 2) := by decide +kernel
theorem dX5_finds_12 : decode cX5_finds 12 = .ok (.iload_n 1, 1) := by decide +kernel
theorem dX5_finds_13 : decode cX5_finds 13 = .ok (.isub, 1) := by decide +kernel
theorem dX5_finds_14 : decode cX5_finds 14 = .ok (.ireturn, 1) := by decide +kernel
theorem dX5_in_0 : decode cX5_in 0 = .ok (.lload_n 0, 1) := by decide +kernel
theorem dX5_in_1 : decode cX5_in 1 = .ok (.lload_n 2, 1) := by decide +kernel
theorem dX5_in_2 : decode cX5_in 2 = .ok (.lcmp, 1) := by decide +kernel
theorem dX5_in_3 : decode cX5_in 3 = .ok (.ifCond .lt 14, 3) := by decide +kernel
theorem dX5_in_6 : decode cX5_in 6 = .ok (.lload_n 0, 1) := by decide +kernel
theorem dX5_in_7 : decode cX5_in 7 = .ok (.lload 4, 2) := by decide +kernel
theorem dX5_in_9 : decode cX5_in 9 = .ok (.lcmp, 1) := by decide +kernel
theorem dX5_in_10 : decode cX5_in 10 = .ok (.ifCond .gt 7, 3) := by decide +kernel
theorem dX5_in_13 : decode cX5_in 13 = .ok (.iconst 1, 1) := by decide +kernel
theorem dX5_in_14 : decode cX5_in 14 = .ok (.goto 4, 3) := by decide +kernel
theorem dX5_in_17 : decode cX5_in 17 = .ok (.iconst 0, 1) := by decide +kernel
theorem dX5_in_18 : decode cX5_in 18 = .ok (.ireturn, 1) := by decide +kernel
theorem dX5_held_0 : decode cX5_held 0 = .ok (.iload_n 0, 1) := by decide +kernel
theorem dX5_held_1 : decode cX5_held 1 = .ok (.iload_n 1, 1) := by decide +kernel
theorem dX5_held_2 : decode cX5_held 2 = .ok (.if_icmp .ge 7, 3) := by decide +kernel
theorem dX5_held_5 : decode cX5_held 5 = .ok (.iload_n 1, 1) := by decide +kernel
theorem dX5_held_6 : decode cX5_held 6 = .ok (.goto 13, 3) := by decide +kernel
theorem dX5_held_9 : decode cX5_held 9 = .ok (.iload_n 0, 1) := by decide +kernel
theorem dX5_held_10 : decode cX5_held 10 = .ok (.iload_n 2, 1) := by decide +kernel
theorem dX5_held_11 : decode cX5_held 11 = .ok (.if_icmp .le 7, 3) := by decide +kernel
theorem dX5_held_14 : decode cX5_held 14 = .ok (.iload_n 2, 1) := by decide +kernel
theorem dX5_held_15 : decode cX5_held 15 = .ok (.goto 4, 3) := by decide +kernel
theorem dX5_held_18 : decode cX5_held 18 = .ok (.iload_n 0, 1) := by decide +kernel
theorem dX5_held_19 : decode cX5_held 19 = .ok (.ireturn, 1) := by decide +kernel
theorem dX5_size_0 : decode cX5_size 0 = .ok (.iload_n 0, 1) := by decide +kernel
theorem dX5_size_1 : decode cX5_size 1 = .ok (.ifCond .ge 8, 3) := by decide +kernel
theorem dX5_size_4 : decode cX5_size 4 = .ok (.iload_n 0, 1) := by decide +kernel
theorem dX5_size_5 : decode cX5_size 5 = .ok (.ineg, 1) := by decide +kernel
theorem dX5_size_6 : decode cX5_size 6 = .ok (.goto 4, 3) := by decide +kernel
theorem dX5_size_9 : decode cX5_size 9 = .ok (.iload_n 0, 1) := by decide +kernel
theorem dX5_size_10 : decode cX5_size 10 = .ok (.ireturn, 1) := by decide +kernel
theorem dX5_copies_0 : decode cX5_copies 0 = .ok (.iconst 0, 1) := by decide +kernel
theorem dX5_copies_1 : decode cX5_copies 1 = .ok (.istore_n 2, 1) := by decide +kernel
theorem dX5_copies_2 : decode cX5_copies 2 = .ok (.iload_n 2, 1) := by decide +kernel
theorem dX5_copies_3 : decode cX5_copies 3 = .ok (.sipush 135, 3) := by decide +kernel
theorem dX5_copies_6 : decode cX5_copies 6 = .ok (.if_icmp .ge 15, 3) := by decide +kernel
theorem dX5_copies_9 : decode cX5_copies 9 = .ok (.aload_n 1, 1) := by decide +kernel
theorem dX5_copies_10 : decode cX5_copies 10 = .ok (.iload_n 2, 1) := by decide +kernel
theorem dX5_copies_11 : decode cX5_copies 11 = .ok (.aload_n 0, 1) := by decide +kernel
theorem dX5_copies_12 : decode cX5_copies 12 = .ok (.iload_n 2, 1) := by decide +kernel
theorem dX5_copies_13 : decode cX5_copies 13 = .ok (.iaload, 1) := by decide +kernel
theorem dX5_copies_14 : decode cX5_copies 14 = .ok (.iastore, 1) := by decide +kernel
theorem dX5_copies_15 : decode cX5_copies 15 = .ok (.iinc 2 1, 3) := by decide +kernel
theorem dX5_copies_18 : decode cX5_copies 18 = .ok (.goto (-16), 3) := by decide +kernel
theorem dX5_copies_21 : decode cX5_copies 21 = .ok (.return_, 1) := by decide +kernel
theorem dX5_isPotter_0 : decode cX5_isPotter 0 = .ok (.iload_n 1, 1) := by decide +kernel
theorem dX5_isPotter_1 : decode cX5_isPotter 1 = .ok (.i2l, 1) := by decide +kernel
theorem dX5_isPotter_2 : decode cX5_isPotter 2 = .ok (.lconst 0, 1) := by decide +kernel
theorem dX5_isPotter_3 : decode cX5_isPotter 3 = .ok (.aload_n 0, 1) := by decide +kernel
theorem dX5_isPotter_4 : decode cX5_isPotter 4 = .ok (.getfield 7, 3) := by decide +kernel
theorem dX5_isPotter_7 : decode cX5_isPotter 7 = .ok (.iconst 0, 1) := by decide +kernel
theorem dX5_isPotter_8 : decode cX5_isPotter 8 = .ok (.iaload, 1) := by decide +kernel
theorem dX5_isPotter_9 : decode cX5_isPotter 9 = .ok (.iconst 1, 1) := by decide +kernel
theorem dX5_isPotter_10 : decode cX5_isPotter 10 = .ok (.isub, 1) := by decide +kernel
theorem dX5_isPotter_11 : decode cX5_isPotter 11 = .ok (.i2l, 1) := by decide +kernel
theorem dX5_isPotter_12 : decode cX5_isPotter 12 = .ok (.invokestatic 42, 3) := by decide +kernel
theorem dX5_isPotter_15 : decode cX5_isPotter 15 = .ok (.ireturn, 1) := by decide +kernel
theorem dX5_areTwo_0 : decode cX5_areTwo 0 = .ok (.aload_n 0, 1) := by decide +kernel
theorem dX5_areTwo_1 : decode cX5_areTwo 1 = .ok (.iload_n 1, 1) := by decide +kernel
theorem dX5_areTwo_2 : decode cX5_areTwo 2 = .ok (.invokevirtual 46, 3) := by decide +kernel
theorem dX5_areTwo_5 : decode cX5_areTwo 5 = .ok (.ifCond .eq 20, 3) := by decide +kernel
theorem dX5_areTwo_8 : decode cX5_areTwo 8 = .ok (.aload_n 0, 1) := by decide +kernel
theorem dX5_areTwo_9 : decode cX5_areTwo 9 = .ok (.iload_n 2, 1) := by decide +kernel
theorem dX5_areTwo_10 : decode cX5_areTwo 10 = .ok (.invokevirtual 46, 3) := by decide +kernel
theorem dX5_areTwo_13 : decode cX5_areTwo 13 = .ok (.ifCond .eq 12, 3) := by decide +kernel
theorem dX5_areTwo_16 : decode cX5_areTwo 16 = .ok (.iload_n 1, 1) := by decide +kernel
theorem dX5_areTwo_17 : decode cX5_areTwo 17 = .ok (.iload_n 2, 1) := by decide +kernel
theorem dX5_areTwo_18 : decode cX5_areTwo 18 = .ok (.if_icmp .eq 7, 3) := by decide +kernel
theorem dX5_areTwo_21 : decode cX5_areTwo 21 = .ok (.iconst 1, 1) := by decide +kernel
theorem dX5_areTwo_22 : decode cX5_areTwo 22 = .ok (.goto 4, 3) := by decide +kernel
theorem dX5_areTwo_25 : decode cX5_areTwo 25 = .ok (.iconst 0, 1) := by decide +kernel
theorem dX5_areTwo_26 : decode cX5_areTwo 26 = .ok (.ireturn, 1) := by decide +kernel
theorem dX5_its_0 : decode cX5_its 0 = .ok (.aload_n 0, 1) := by decide +kernel
theorem dX5_its_1 : decode cX5_its 1 = .ok (.getfield 7, 3) := by decide +kernel
theorem dX5_its_4 : decode cX5_its 4 = .ok (.bipush 13, 2) := by decide +kernel
theorem dX5_its_6 : decode cX5_its 6 = .ok (.bipush 8, 2) := by decide +kernel
theorem dX5_its_8 : decode cX5_its 8 = .ok (.iload_n 2, 1) := by decide +kernel
theorem dX5_its_9 : decode cX5_its 9 = .ok (.imul, 1) := by decide +kernel
theorem dX5_its_10 : decode cX5_its 10 = .ok (.iadd, 1) := by decide +kernel
theorem dX5_its_11 : decode cX5_its 11 = .ok (.iload_n 1, 1) := by decide +kernel
theorem dX5_its_12 : decode cX5_its 12 = .ok (.iadd, 1) := by decide +kernel
theorem dX5_its_13 : decode cX5_its 13 = .ok (.iaload, 1) := by decide +kernel
theorem dX5_its_14 : decode cX5_its 14 = .ok (.ireturn, 1) := by decide +kernel
theorem dX5_sets_0 : decode cX5_sets 0 = .ok (.aload_n 0, 1) := by decide +kernel
theorem dX5_sets_1 : decode cX5_sets 1 = .ok (.getfield 7, 3) := by decide +kernel
theorem dX5_sets_4 : decode cX5_sets 4 = .ok (.bipush 13, 2) := by decide +kernel
theorem dX5_sets_6 : decode cX5_sets 6 = .ok (.bipush 8, 2) := by decide +kernel
theorem dX5_sets_8 : decode cX5_sets 8 = .ok (.iload_n 2, 1) := by decide +kernel
theorem dX5_sets_9 : decode cX5_sets 9 = .ok (.imul, 1) := by decide +kernel
theorem dX5_sets_10 : decode cX5_sets 10 = .ok (.iadd, 1) := by decide +kernel
theorem dX5_sets_11 : decode cX5_sets 11 = .ok (.iload_n 1, 1) := by decide +kernel
theorem dX5_sets_12 : decode cX5_sets 12 = .ok (.iadd, 1) := by decide +kernel
theorem dX5_sets_13 : decode cX5_sets 13 = .ok (.iload_n 3, 1) := by decide +kernel
theorem dX5_sets_14 : decode cX5_sets 14 = .ok (.iastore, 1) := by decide +kernel
theorem dX5_sets_15 : decode cX5_sets 15 = .ok (.return_, 1) := by decide +kernel
theorem dX5_adds_0 : decode cX5_adds 0 = .ok (.aload_n 0, 1) := by decide +kernel
theorem dX5_adds_1 : decode cX5_adds 1 = .ok (.getfield 7, 3) := by decide +kernel
theorem dX5_adds_4 : decode cX5_adds 4 = .ok (.iload_n 1, 1) := by decide +kernel
theorem dX5_adds_5 : decode cX5_adds 5 = .ok (.aload_n 0, 1) := by decide +kernel
theorem dX5_adds_6 : decode cX5_adds 6 = .ok (.getfield 7, 3) := by decide +kernel
theorem dX5_adds_9 : decode cX5_adds 9 = .ok (.iload_n 1, 1) := by decide +kernel
theorem dX5_adds_10 : decode cX5_adds 10 = .ok (.iaload, 1) := by decide +kernel
theorem dX5_adds_11 : decode cX5_adds 11 = .ok (.iload_n 2, 1) := by decide +kernel
theorem dX5_adds_12 : decode cX5_adds 12 = .ok (.iadd, 1) := by decide +kernel
theorem dX5_adds_13 : decode cX5_adds 13 = .ok (.iconst 0, 1) := by decide +kernel
theorem dX5_adds_14 : decode cX5_adds 14 = .ok (.iload_n 3, 1) := by decide +kernel
theorem dX5_adds_15 : decode cX5_adds 15 = .ok (.invokestatic 50, 3) := by decide +kernel
theorem dX5_adds_18 : decode cX5_adds 18 = .ok (.iastore, 1) := by decide +kernel
theorem dX5_adds_19 : decode cX5_adds 19 = .ok (.return_, 1) := by decide +kernel
theorem dX5_becomes_0 : decode cX5_becomes 0 = .ok (.aload_n 0, 1) := by decide +kernel
theorem dX5_becomes_1 : decode cX5_becomes 1 = .ok (.getfield 7, 3) := by decide +kernel
theorem dX5_becomes_4 : decode cX5_becomes 4 = .ok (.iload_n 1, 1) := by decide +kernel
theorem dX5_becomes_5 : decode cX5_becomes 5 = .ok (.iaload, 1) := by decide +kernel
theorem dX5_becomes_6 : decode cX5_becomes 6 = .ok (.istore_n 3, 1) := by decide +kernel
theorem dX5_becomes_7 : decode cX5_becomes 7 = .ok (.aload_n 0, 1) := by decide +kernel
theorem dX5_becomes_8 : decode cX5_becomes 8 = .ok (.getfield 7, 3) := by decide +kernel
theorem dX5_becomes_11 : decode cX5_becomes 11 = .ok (.iload_n 1, 1) := by decide +kernel
theorem dX5_becomes_12 : decode cX5_becomes 12 = .ok (.iload_n 2, 1) := by decide +kernel
theorem dX5_becomes_13 : decode cX5_becomes 13 = .ok (.iastore, 1) := by decide +kernel
theorem dX5_becomes_14 : decode cX5_becomes 14 = .ok (.iload_n 3, 1) := by decide +kernel
theorem dX5_becomes_15 : decode cX5_becomes 15 = .ok (.ireturn, 1) := by decide +kernel
theorem dX5_ones_0 : decode cX5_ones 0 = .ok (.iconst 0, 1) := by decide +kernel
theorem dX5_ones_1 : decode cX5_ones 1 = .ok (.istore_n 1, 1) := by decide +kernel
theorem dX5_ones_2 : decode cX5_ones 2 = .ok (.iconst 0, 1) := by decide +kernel
theorem dX5_ones_3 : decode cX5_ones 3 = .ok (.istore_n 2, 1) := by decide +kernel
theorem dX5_ones_4 : decode cX5_ones 4 = .ok (.iload_n 2, 1) := by decide +kernel
theorem dX5_ones_5 : decode cX5_ones 5 = .ok (.bipush 8, 2) := by decide +kernel
theorem dX5_ones_7 : decode cX5_ones 7 = .ok (.if_icmp .ge 17, 3) := by decide +kernel
theorem dX5_ones_10 : decode cX5_ones 10 = .ok (.iload_n 1, 1) := by decide +kernel
theorem dX5_ones_11 : decode cX5_ones 11 = .ok (.iload_n 0, 1) := by decide +kernel
theorem dX5_ones_12 : decode cX5_ones 12 = .ok (.iload_n 2, 1) := by decide +kernel
theorem dX5_ones_13 : decode cX5_ones 13 = .ok (.ishr, 1) := by decide +kernel
theorem dX5_ones_14 : decode cX5_ones 14 = .ok (.iconst 1, 1) := by decide +kernel
theorem dX5_ones_15 : decode cX5_ones 15 = .ok (.iand, 1) := by decide +kernel
theorem dX5_ones_16 : decode cX5_ones 16 = .ok (.iadd, 1) := by decide +kernel
theorem dX5_ones_17 : decode cX5_ones 17 = .ok (.istore_n 1, 1) := by decide +kernel
theorem dX5_ones_18 : decode cX5_ones 18 = .ok (.iinc 2 1, 3) := by decide +kernel
theorem dX5_ones_21 : decode cX5_ones 21 = .ok (.goto (-17), 3) := by decide +kernel
theorem dX5_ones_24 : decode cX5_ones 24 = .ok (.iload_n 1, 1) := by decide +kernel
theorem dX5_ones_25 : decode cX5_ones 25 = .ok (.ireturn, 1) := by decide +kernel
theorem dX5_between_0 : decode cX5_between 0 = .ok (.bipush 61, 2) := by decide +kernel
theorem dX5_between_2 : decode cX5_between 2 = .ok (.iload_n 0, 1) := by decide +kernel
theorem dX5_between_3 : decode cX5_between 3 = .ok (.iload_n 1, 1) := by decide +kernel
theorem dX5_between_4 : decode cX5_between 4 = .ok (.if_icmp .ge 12, 3) := by decide +kernel
theorem dX5_between_7 : decode cX5_between 7 = .ok (.bipush 8, 2) := by decide +kernel
theorem dX5_between_9 : decode cX5_between 9 = .ok (.iload_n 0, 1) := by decide +kernel
theorem dX5_between_10 : decode cX5_between 10 = .ok (.imul, 1) := by decide +kernel
theorem dX5_between_11 : decode cX5_between 11 = .ok (.iload_n 1, 1) := by decide +kernel
theorem dX5_between_12 : decode cX5_between 12 = .ok (.iadd, 1) := by decide +kernel
theorem dX5_between_13 : decode cX5_between 13 = .ok (.goto 9, 3) := by decide +kernel
theorem dX5_between_16 : decode cX5_between 16 = .ok (.bipush 8, 2) := by decide +kernel
theorem dX5_between_18 : decode cX5_between 18 = .ok (.iload_n 1, 1) := by decide +kernel
theorem dX5_between_19 : decode cX5_between 19 = .ok (.imul, 1) := by decide +kernel
theorem dX5_between_20 : decode cX5_between 20 = .ok (.iload_n 0, 1) := by decide +kernel
theorem dX5_between_21 : decode cX5_between 21 = .ok (.iadd, 1) := by decide +kernel
theorem dX5_between_22 : decode cX5_between 22 = .ok (.iadd, 1) := by decide +kernel
theorem dX5_between_23 : decode cX5_between 23 = .ok (.ireturn, 1) := by decide +kernel
theorem dX5_pushes_0 : decode cX5_pushes 0 = .ok (.aload_n 0, 1) := by decide +kernel
theorem dX5_pushes_1 : decode cX5_pushes 1 = .ok (.iload_n 1, 1) := by decide +kernel
theorem dX5_pushes_2 : decode cX5_pushes 2 = .ok (.iconst 1, 1) := by decide +kernel
theorem dX5_pushes_3 : decode cX5_pushes 3 = .ok (.invokevirtual 54, 3) := by decide +kernel
theorem dX5_pushes_6 : decode cX5_pushes 6 = .ok (.bipush 10, 2) := by decide +kernel
theorem dX5_pushes_8 : decode cX5_pushes 8 = .ok (.idiv, 1) := by decide +kernel
theorem dX5_pushes_9 : decode cX5_pushes 9 = .ok (.istore_n 2, 1) := by decide +kernel
theorem dX5_pushes_10 : decode cX5_pushes 10 = .ok (.iload_n 2, 1) := by decide +kernel
theorem dX5_pushes_11 : decode cX5_pushes 11 = .ok (.aload_n 0, 1) := by decide +kernel
theorem dX5_pushes_12 : decode cX5_pushes 12 = .ok (.iload_n 1, 1) := by decide +kernel
theorem dX5_pushes_13 : decode cX5_pushes 13 = .ok (.iconst 3, 1) := by decide +kernel
theorem dX5_pushes_14 : decode cX5_pushes 14 = .ok (.invokevirtual 54, 3) := by decide +kernel
theorem dX5_pushes_17 : decode cX5_pushes 17 = .ok (.bipush 10, 2) := by decide +kernel
theorem dX5_pushes_19 : decode cX5_pushes 19 = .ok (.idiv, 1) := by decide +kernel
theorem dX5_pushes_20 : decode cX5_pushes 20 = .ok (.iadd, 1) := by decide +kernel
theorem dX5_pushes_21 : decode cX5_pushes 21 = .ok (.istore_n 3, 1) := by decide +kernel
theorem dX5_pushes_22 : decode cX5_pushes 22 = .ok (.iload_n 3, 1) := by decide +kernel
theorem dX5_pushes_23 : decode cX5_pushes 23 = .ok (.aload_n 0, 1) := by decide +kernel
theorem dX5_pushes_24 : decode cX5_pushes 24 = .ok (.iload_n 1, 1) := by decide +kernel
theorem dX5_pushes_25 : decode cX5_pushes 25 = .ok (.iconst 2, 1) := by decide +kernel
theorem dX5_pushes_26 : decode cX5_pushes 26 = .ok (.invokevirtual 54, 3) := by decide +kernel
theorem dX5_pushes_29 : decode cX5_pushes 29 = .ok (.bipush 10, 2) := by decide +kernel
theorem dX5_pushes_31 : decode cX5_pushes 31 = .ok (.idiv, 1) := by decide +kernel
theorem dX5_pushes_32 : decode cX5_pushes 32 = .ok (.isub, 1) := by decide +kernel
theorem dX5_pushes_33 : decode cX5_pushes 33 = .ok (.iconst 0, 1) := by decide +kernel
theorem dX5_pushes_34 : decode cX5_pushes 34 = .ok (.sipush 9999, 3) := by decide +kernel
theorem dX5_pushes_37 : decode cX5_pushes 37 = .ok (.invokestatic 50, 3) := by decide +kernel
theorem dX5_pushes_40 : decode cX5_pushes 40 = .ok (.istore 4, 2) := by decide +kernel
theorem dX5_pushes_42 : decode cX5_pushes 42 = .ok (.aload_n 0, 1) := by decide +kernel
theorem dX5_pushes_43 : decode cX5_pushes 43 = .ok (.iload_n 1, 1) := by decide +kernel
theorem dX5_pushes_44 : decode cX5_pushes 44 = .ok (.iconst 0, 1) := by decide +kernel
theorem dX5_pushes_45 : decode cX5_pushes 45 = .ok (.invokevirtual 54, 3) := by decide +kernel
theorem dX5_pushes_48 : decode cX5_pushes 48 = .ok (.tableswitch 76 1 6 #[40, 50, 42, 45, 74, 54], 40) := by decide +kernel
theorem dX5_pushes_88 : decode cX5_pushes 88 = .ok (.iload_n 3, 1) := by decide +kernel
theorem dX5_pushes_89 : decode cX5_pushes 89 = .ok (.ireturn, 1) := by decide +kernel
theorem dX5_pushes_90 : decode cX5_pushes 90 = .ok (.iload 4, 2) := by decide +kernel
theorem dX5_pushes_92 : decode cX5_pushes 92 = .ok (.ireturn, 1) := by decide +kernel
theorem dX5_pushes_93 : decode cX5_pushes 93 = .ok (.iload 4, 2) := by decide +kernel
theorem dX5_pushes_95 : decode cX5_pushes 95 = .ok (.iconst 2, 1) := by decide +kernel
theorem dX5_pushes_96 : decode cX5_pushes 96 = .ok (.iadd, 1) := by decide +kernel
theorem dX5_pushes_97 : decode cX5_pushes 97 = .ok (.ireturn, 1) := by decide +kernel
theorem dX5_pushes_98 : decode cX5_pushes 98 = .ok (.iconst 2, 1) := by decide +kernel
theorem dX5_pushes_99 : decode cX5_pushes 99 = .ok (.iload_n 2, 1) := by decide +kernel
theorem dX5_pushes_100 : decode cX5_pushes 100 = .ok (.imul, 1) := by decide +kernel
theorem dX5_pushes_101 : decode cX5_pushes 101 = .ok (.ireturn, 1) := by decide +kernel
theorem dX5_pushes_102 : decode cX5_pushes 102 = .ok (.iconst 2, 1) := by decide +kernel
theorem dX5_pushes_103 : decode cX5_pushes 103 = .ok (.iload_n 2, 1) := by decide +kernel
theorem dX5_pushes_104 : decode cX5_pushes 104 = .ok (.imul, 1) := by decide +kernel
theorem dX5_pushes_105 : decode cX5_pushes 105 = .ok (.aload_n 0, 1) := by decide +kernel
theorem dX5_pushes_106 : decode cX5_pushes 106 = .ok (.iload_n 1, 1) := by decide +kernel
theorem dX5_pushes_107 : decode cX5_pushes 107 = .ok (.iconst 2, 1) := by decide +kernel
theorem dX5_pushes_108 : decode cX5_pushes 108 = .ok (.invokevirtual 54, 3) := by decide +kernel
theorem dX5_pushes_111 : decode cX5_pushes 111 = .ok (.iconst 5, 1) := by decide +kernel
theorem dX5_pushes_112 : decode cX5_pushes 112 = .ok (.idiv, 1) := by decide +kernel
theorem dX5_pushes_113 : decode cX5_pushes 113 = .ok (.isub, 1) := by decide +kernel
theorem dX5_pushes_114 : decode cX5_pushes 114 = .ok (.iconst 0, 1) := by decide +kernel
theorem dX5_pushes_115 : decode cX5_pushes 115 = .ok (.sipush 9999, 3) := by decide +kernel
theorem dX5_pushes_118 : decode cX5_pushes 118 = .ok (.invokestatic 50, 3) := by decide +kernel
theorem dX5_pushes_121 : decode cX5_pushes 121 = .ok (.ireturn, 1) := by decide +kernel
theorem dX5_pushes_122 : decode cX5_pushes 122 = .ok (.iconst 1, 1) := by decide +kernel
theorem dX5_pushes_123 : decode cX5_pushes 123 = .ok (.ireturn, 1) := by decide +kernel
theorem dX5_pushes_124 : decode cX5_pushes 124 = .ok (.iload_n 2, 1) := by decide +kernel
theorem dX5_pushes_125 : decode cX5_pushes 125 = .ok (.ireturn, 1) := by decide +kernel
theorem dX5_says_0 : decode cX5_says 0 = .ok (.aload_n 0, 1) := by decide +kernel
theorem dX5_says_1 : decode cX5_says 1 = .ok (.iload_n 1, 1) := by decide +kernel
theorem dX5_says_2 : decode cX5_says 2 = .ok (.iconst 1, 1) := by decide +kernel
theorem dX5_says_3 : decode cX5_says 3 = .ok (.invokevirtual 54, 3) := by decide +kernel
theorem dX5_says_6 : decode cX5_says 6 = .ok (.bipush 50, 2) := by decide +kernel
theorem dX5_says_8 : decode cX5_says 8 = .ok (.if_icmp .lt 7, 3) := by decide +kernel
theorem dX5_says_11 : decode cX5_says 11 = .ok (.iconst 1, 1) := by decide +kernel
theorem dX5_says_12 : decode cX5_says 12 = .ok (.goto 4, 3) := by decide +kernel
theorem dX5_says_15 : decode cX5_says 15 = .ok (.iconst (-1), 1) := by decide +kernel
theorem dX5_says_16 : decode cX5_says 16 = .ok (.istore_n 2, 1) := by decide +kernel
theorem dX5_says_17 : decode cX5_says 17 = .ok (.aload_n 0, 1) := by decide +kernel
theorem dX5_says_18 : decode cX5_says 18 = .ok (.iload_n 1, 1) := by decide +kernel
theorem dX5_says_19 : decode cX5_says 19 = .ok (.iconst 0, 1) := by decide +kernel
theorem dX5_says_20 : decode cX5_says 20 = .ok (.invokevirtual 54, 3) := by decide +kernel
theorem dX5_says_23 : decode cX5_says 23 = .ok (.tableswitch 84 1 6 #[37, 84, 41, 61, 82, 64], 37) := by decide +kernel
theorem dX5_says_60 : decode cX5_says 60 = .ok (.iload_n 2, 1) := by decide +kernel
theorem dX5_says_61 : decode cX5_says 61 = .ok (.iconst 1, 1) := by decide +kernel
theorem dX5_says_62 : decode cX5_says 62 = .ok (.iadd, 1) := by decide +kernel
theorem dX5_says_63 : decode cX5_says 63 = .ok (.ireturn, 1) := by decide +kernel
theorem dX5_says_64 : decode cX5_says 64 = .ok (.aload_n 0, 1) := by decide +kernel
theorem dX5_says_65 : decode cX5_says 65 = .ok (.iload_n 1, 1) := by decide +kernel
theorem dX5_says_66 : decode cX5_says 66 = .ok (.iconst 2, 1) := by decide +kernel
theorem dX5_says_67 : decode cX5_says 67 = .ok (.invokevirtual 54, 3) := by decide +kernel
theorem dX5_says_70 : decode cX5_says 70 = .ok (.bipush 60, 2) := by decide +kernel
theorem dX5_says_72 : decode cX5_says 72 = .ok (.if_icmp .lt 8, 3) := by decide +kernel
theorem dX5_says_75 : decode cX5_says 75 = .ok (.bipush (-3), 2) := by decide +kernel
theorem dX5_says_77 : decode cX5_says 77 = .ok (.goto 6, 3) := by decide +kernel
theorem dX5_says_80 : decode cX5_says 80 = .ok (.iload_n 2, 1) := by decide +kernel
theorem dX5_says_81 : decode cX5_says 81 = .ok (.iconst 1, 1) := by decide +kernel
theorem dX5_says_82 : decode cX5_says 82 = .ok (.iadd, 1) := by decide +kernel
theorem dX5_says_83 : decode cX5_says 83 = .ok (.ireturn, 1) := by decide +kernel
theorem dX5_says_84 : decode cX5_says 84 = .ok (.bipush (-2), 2) := by decide +kernel
theorem dX5_says_86 : decode cX5_says 86 = .ok (.ireturn, 1) := by decide +kernel
theorem dX5_says_87 : decode cX5_says 87 = .ok (.aload_n 0, 1) := by decide +kernel
theorem dX5_says_88 : decode cX5_says 88 = .ok (.iload_n 1, 1) := by decide +kernel
theorem dX5_says_89 : decode cX5_says 89 = .ok (.iconst 2, 1) := by decide +kernel
theorem dX5_says_90 : decode cX5_says 90 = .ok (.invokevirtual 54, 3) := by decide +kernel
theorem dX5_says_93 : decode cX5_says 93 = .ok (.bipush 10, 2) := by decide +kernel
theorem dX5_says_95 : decode cX5_says 95 = .ok (.if_icmp .ge 8, 3) := by decide +kernel
theorem dX5_says_98 : decode cX5_says 98 = .ok (.bipush 20, 2) := by decide +kernel
theorem dX5_says_100 : decode cX5_says 100 = .ok (.goto 4, 3) := by decide +kernel
theorem dX5_says_103 : decode cX5_says 103 = .ok (.iload_n 2, 1) := by decide +kernel
theorem dX5_says_104 : decode cX5_says 104 = .ok (.ireturn, 1) := by decide +kernel
theorem dX5_says_105 : decode cX5_says 105 = .ok (.iconst 0, 1) := by decide +kernel
theorem dX5_says_106 : decode cX5_says 106 = .ok (.ireturn, 1) := by decide +kernel
theorem dX5_says_107 : decode cX5_says 107 = .ok (.iload_n 2, 1) := by decide +kernel
theorem dX5_says_108 : decode cX5_says 108 = .ok (.ireturn, 1) := by decide +kernel
theorem dX5_cools_0 : decode cX5_cools 0 = .ok (.aload_n 0, 1) := by decide +kernel
theorem dX5_cools_1 : decode cX5_cools 1 = .ok (.iload_n 1, 1) := by decide +kernel
theorem dX5_cools_2 : decode cX5_cools 2 = .ok (.iconst 0, 1) := by decide +kernel
theorem dX5_cools_3 : decode cX5_cools 3 = .ok (.invokevirtual 54, 3) := by decide +kernel
theorem dX5_cools_6 : decode cX5_cools 6 = .ok (.tableswitch 44 1 6 #[38, 40, 38, 44, 42, 40], 38) := by decide +kernel
theorem dX5_cools_44 : decode cX5_cools 44 = .ok (.iconst 1, 1) := by decide +kernel
theorem dX5_cools_45 : decode cX5_cools 45 = .ok (.ireturn, 1) := by decide +kernel
theorem dX5_cools_46 : decode cX5_cools 46 = .ok (.iconst 5, 1) := by decide +kernel
theorem dX5_cools_47 : decode cX5_cools 47 = .ok (.ireturn, 1) := by decide +kernel
theorem dX5_cools_48 : decode cX5_cools 48 = .ok (.iconst 0, 1) := by decide +kernel
theorem dX5_cools_49 : decode cX5_cools 49 = .ok (.ireturn, 1) := by decide +kernel
theorem dX5_cools_50 : decode cX5_cools 50 = .ok (.iconst 2, 1) := by decide +kernel
theorem dX5_cools_51 : decode cX5_cools 51 = .ok (.ireturn, 1) := by decide +kernel
theorem dX5_boils_0 : decode cX5_boils 0 = .ok (.aload_n 0, 1) := by decide +kernel
theorem dX5_boils_1 : decode cX5_boils 1 = .ok (.iload_n 1, 1) := by decide +kernel
theorem dX5_boils_2 : decode cX5_boils 2 = .ok (.iconst 0, 1) := by decide +kernel
theorem dX5_boils_3 : decode cX5_boils 3 = .ok (.invokevirtual 54, 3) := by decide +kernel
theorem dX5_boils_6 : decode cX5_boils 6 = .ok (.tableswitch 41 2 6 #[37, 34, 34, 39, 37], 34) := by decide +kernel
theorem dX5_boils_40 : decode cX5_boils 40 = .ok (.bipush 10, 2) := by decide +kernel
theorem dX5_boils_42 : decode cX5_boils 42 = .ok (.ireturn, 1) := by decide +kernel
theorem dX5_boils_43 : decode cX5_boils 43 = .ok (.iconst 3, 1) := by decide +kernel
theorem dX5_boils_44 : decode cX5_boils 44 = .ok (.ireturn, 1) := by decide +kernel
theorem dX5_boils_45 : decode cX5_boils 45 = .ok (.iconst 1, 1) := by decide +kernel
theorem dX5_boils_46 : decode cX5_boils 46 = .ok (.ireturn, 1) := by decide +kernel
theorem dX5_boils_47 : decode cX5_boils 47 = .ok (.iconst 5, 1) := by decide +kernel
theorem dX5_boils_48 : decode cX5_boils 48 = .ok (.ireturn, 1) := by decide +kernel
theorem dX5_rises_0 : decode cX5_rises 0 = .ok (.aload_n 0, 1) := by decide +kernel
theorem dX5_rises_1 : decode cX5_rises 1 = .ok (.getfield 7, 3) := by decide +kernel
theorem dX5_rises_4 : decode cX5_rises 4 = .ok (.iconst 3, 1) := by decide +kernel
theorem dX5_rises_5 : decode cX5_rises 5 = .ok (.iaload, 1) := by decide +kernel
theorem dX5_rises_6 : decode cX5_rises 6 = .ok (.aload_n 0, 1) := by decide +kernel
theorem dX5_rises_7 : decode cX5_rises 7 = .ok (.getfield 7, 3) := by decide +kernel
theorem dX5_rises_10 : decode cX5_rises 10 = .ok (.iload_n 1, 1) := by decide +kernel
theorem dX5_rises_11 : decode cX5_rises 11 = .ok (.iload_n 2, 1) := by decide +kernel
theorem dX5_rises_12 : decode cX5_rises 12 = .ok (.invokestatic 58, 3) := by decide +kernel
theorem dX5_rises_15 : decode cX5_rises 15 = .ok (.iaload, 1) := by decide +kernel
theorem dX5_rises_16 : decode cX5_rises 16 = .ok (.imul, 1) := by decide +kernel
theorem dX5_rises_17 : decode cX5_rises 17 = .ok (.bipush 20, 2) := by decide +kernel
theorem dX5_rises_19 : decode cX5_rises 19 = .ok (.idiv, 1) := by decide +kernel
theorem dX5_rises_20 : decode cX5_rises 20 = .ok (.ireturn, 1) := by decide +kernel
theorem dX5_leans_0 : decode cX5_leans 0 = .ok (.aload_n 0, 1) := by decide +kernel
theorem dX5_leans_1 : decode cX5_leans 1 = .ok (.iload_n 1, 1) := by decide +kernel
theorem dX5_leans_2 : decode cX5_leans 2 = .ok (.invokevirtual 61, 3) := by decide +kernel
theorem dX5_leans_5 : decode cX5_leans 5 = .ok (.aload_n 0, 1) := by decide +kernel
theorem dX5_leans_6 : decode cX5_leans 6 = .ok (.iload_n 2, 1) := by decide +kernel
theorem dX5_leans_7 : decode cX5_leans 7 = .ok (.invokevirtual 61, 3) := by decide +kernel
theorem dX5_leans_10 : decode cX5_leans 10 = .ok (.isub, 1) := by decide +kernel
theorem dX5_leans_11 : decode cX5_leans 11 = .ok (.ireturn, 1) := by decide +kernel
theorem dX5_isFlop_0 : decode cX5_isFlop 0 = .ok (.aload_n 0, 1) := by decide +kernel
theorem dX5_isFlop_1 : decode cX5_isFlop 1 = .ok (.iload_n 1, 1) := by decide +kernel
theorem dX5_isFlop_2 : decode cX5_isFlop 2 = .ok (.iload_n 2, 1) := by decide +kernel
theorem dX5_isFlop_3 : decode cX5_isFlop 3 = .ok (.invokevirtual 65, 3) := by decide +kernel
theorem dX5_isFlop_6 : decode cX5_isFlop 6 = .ok (.ifCond .eq 21, 3) := by decide +kernel
theorem dX5_isFlop_9 : decode cX5_isFlop 9 = .ok (.aload_n 0, 1) := by decide +kernel
theorem dX5_isFlop_10 : decode cX5_isFlop 10 = .ok (.iload_n 1, 1) := by decide +kernel
theorem dX5_isFlop_11 : decode cX5_isFlop 11 = .ok (.iload_n 2, 1) := by decide +kernel
theorem dX5_isFlop_12 : decode cX5_isFlop 12 = .ok (.invokevirtual 68, 3) := by decide +kernel
theorem dX5_isFlop_15 : decode cX5_isFlop 15 = .ok (.invokestatic 71, 3) := by decide +kernel
theorem dX5_isFlop_18 : decode cX5_isFlop 18 = .ok (.aload_n 0, 1) := by decide +kernel
theorem dX5_isFlop_19 : decode cX5_isFlop 19 = .ok (.iload_n 1, 1) := by decide +kernel
theorem dX5_isFlop_20 : decode cX5_isFlop 20 = .ok (.iload_n 2, 1) := by decide +kernel
theorem dX5_isFlop_21 : decode cX5_isFlop 21 = .ok (.invokevirtual 65, 3) := by decide +kernel
theorem dX5_isFlop_24 : decode cX5_isFlop 24 = .ok (.if_icmp .le 7, 3) := by decide +kernel
theorem dX5_isFlop_27 : decode cX5_isFlop 27 = .ok (.iconst 1, 1) := by decide +kernel
theorem dX5_isFlop_28 : decode cX5_isFlop 28 = .ok (.goto 4, 3) := by decide +kernel
theorem dX5_isFlop_31 : decode cX5_isFlop 31 = .ok (.iconst 0, 1) := by decide +kernel
theorem dX5_isFlop_32 : decode cX5_isFlop 32 = .ok (.ireturn, 1) := by decide +kernel
theorem dX5_flops_0 : decode cX5_flops 0 = .ok (.aload_n 0, 1) := by decide +kernel
theorem dX5_flops_1 : decode cX5_flops 1 = .ok (.bipush 53, 2) := by decide +kernel
theorem dX5_flops_3 : decode cX5_flops 3 = .ok (.iload_n 1, 1) := by decide +kernel
theorem dX5_flops_4 : decode cX5_flops 4 = .ok (.iadd, 1) := by decide +kernel
theorem dX5_flops_5 : decode cX5_flops 5 = .ok (.iconst 1, 1) := by decide +kernel
theorem dX5_flops_6 : decode cX5_flops 6 = .ok (.sipush 9999, 3) := by decide +kernel
theorem dX5_flops_9 : decode cX5_flops 9 = .ok (.invokevirtual 74, 3) := by decide +kernel
theorem dX5_flops_12 : decode cX5_flops 12 = .ok (.aload_n 0, 1) := by decide +kernel
theorem dX5_flops_13 : decode cX5_flops 13 = .ok (.bipush 21, 2) := by decide +kernel
theorem dX5_flops_15 : decode cX5_flops 15 = .ok (.iload_n 1, 1) := by decide +kernel
theorem dX5_flops_16 : decode cX5_flops 16 = .ok (.iadd, 1) := by decide +kernel
theorem dX5_flops_17 : decode cX5_flops 17 = .ok (.aload_n 0, 1) := by decide +kernel
theorem dX5_flops_18 : decode cX5_flops 18 = .ok (.iload_n 1, 1) := by decide +kernel
theorem dX5_flops_19 : decode cX5_flops 19 = .ok (.invokevirtual 78, 3) := by decide +kernel
theorem dX5_flops_22 : decode cX5_flops 22 = .ok (.bipush 99, 2) := by decide +kernel
theorem dX5_flops_24 : decode cX5_flops 24 = .ok (.invokevirtual 74, 3) := by decide +kernel
theorem dX5_flops_27 : decode cX5_flops 27 = .ok (.return_, 1) := by decide +kernel
theorem dX5_throwsOne_0 : decode cX5_throwsOne 0 = .ok (.aload_n 0, 1) := by decide +kernel
theorem dX5_throwsOne_1 : decode cX5_throwsOne 1 = .ok (.bipush 45, 2) := by decide +kernel
theorem dX5_throwsOne_3 : decode cX5_throwsOne 3 = .ok (.iload_n 1, 1) := by decide +kernel
theorem dX5_throwsOne_4 : decode cX5_throwsOne 4 = .ok (.iadd, 1) := by decide +kernel
theorem dX5_throwsOne_5 : decode cX5_throwsOne 5 = .ok (.iconst 1, 1) := by decide +kernel
theorem dX5_throwsOne_6 : decode cX5_throwsOne 6 = .ok (.sipush 9999, 3) := by decide +kernel
theorem dX5_throwsOne_9 : decode cX5_throwsOne 9 = .ok (.invokevirtual 74, 3) := by decide +kernel
theorem dX5_throwsOne_12 : decode cX5_throwsOne 12 = .ok (.aload_n 0, 1) := by decide +kernel
theorem dX5_throwsOne_13 : decode cX5_throwsOne 13 = .ok (.bipush 21, 2) := by decide +kernel
theorem dX5_throwsOne_15 : decode cX5_throwsOne 15 = .ok (.iload_n 1, 1) := by decide +kernel
theorem dX5_throwsOne_16 : decode cX5_throwsOne 16 = .ok (.iadd, 1) := by decide +kernel
theorem dX5_throwsOne_17 : decode cX5_throwsOne 17 = .ok (.aload_n 0, 1) := by decide +kernel
theorem dX5_throwsOne_18 : decode cX5_throwsOne 18 = .ok (.iload_n 1, 1) := by decide +kernel
theorem dX5_throwsOne_19 : decode cX5_throwsOne 19 = .ok (.invokevirtual 81, 3) := by decide +kernel
theorem dX5_throwsOne_22 : decode cX5_throwsOne 22 = .ok (.ineg, 1) := by decide +kernel
theorem dX5_throwsOne_23 : decode cX5_throwsOne 23 = .ok (.bipush 99, 2) := by decide +kernel
theorem dX5_throwsOne_25 : decode cX5_throwsOne 25 = .ok (.invokevirtual 74, 3) := by decide +kernel
theorem dX5_throwsOne_28 : decode cX5_throwsOne 28 = .ok (.return_, 1) := by decide +kernel
theorem dX5_pots_0 : decode cX5_pots 0 = .ok (.aload_n 0, 1) := by decide +kernel
theorem dX5_pots_1 : decode cX5_pots 1 = .ok (.iload_n 1, 1) := by decide +kernel
theorem dX5_pots_2 : decode cX5_pots 2 = .ok (.invokevirtual 84, 3) := by decide +kernel
theorem dX5_pots_5 : decode cX5_pots 5 = .ok (.aload_n 0, 1) := by decide +kernel
theorem dX5_pots_6 : decode cX5_pots 6 = .ok (.iload_n 2, 1) := by decide +kernel
theorem dX5_pots_7 : decode cX5_pots 7 = .ok (.invokevirtual 84, 3) := by decide +kernel
theorem dX5_pots_10 : decode cX5_pots 10 = .ok (.iadd, 1) := by decide +kernel
theorem dX5_pots_11 : decode cX5_pots 11 = .ok (.istore_n 3, 1) := by decide +kernel
theorem dX5_pots_12 : decode cX5_pots 12 = .ok (.aload_n 0, 1) := by decide +kernel
theorem dX5_pots_13 : decode cX5_pots 13 = .ok (.iload_n 1, 1) := by decide +kernel
theorem dX5_pots_14 : decode cX5_pots 14 = .ok (.iload_n 2, 1) := by decide +kernel
theorem dX5_pots_15 : decode cX5_pots 15 = .ok (.invokevirtual 65, 3) := by decide +kernel
theorem dX5_pots_18 : decode cX5_pots 18 = .ok (.istore 4, 2) := by decide +kernel
theorem dX5_pots_20 : decode cX5_pots 20 = .ok (.aload_n 0, 1) := by decide +kernel
theorem dX5_pots_21 : decode cX5_pots 21 = .ok (.iload_n 1, 1) := by decide +kernel
theorem dX5_pots_22 : decode cX5_pots 22 = .ok (.iload_n 2, 1) := by decide +kernel
theorem dX5_pots_23 : decode cX5_pots 23 = .ok (.invokevirtual 68, 3) := by decide +kernel
theorem dX5_pots_26 : decode cX5_pots 26 = .ok (.istore 5, 2) := by decide +kernel
theorem dX5_pots_28 : decode cX5_pots 28 = .ok (.aload_n 0, 1) := by decide +kernel
theorem dX5_pots_29 : decode cX5_pots 29 = .ok (.iload_n 1, 1) := by decide +kernel
theorem dX5_pots_30 : decode cX5_pots 30 = .ok (.iload_n 2, 1) := by decide +kernel
theorem dX5_pots_31 : decode cX5_pots 31 = .ok (.invokevirtual 87, 3) := by decide +kernel
theorem dX5_pots_34 : decode cX5_pots 34 = .ok (.ifCond .eq 16, 3) := by decide +kernel
theorem dX5_pots_37 : decode cX5_pots 37 = .ok (.aload_n 0, 1) := by decide +kernel
theorem dX5_pots_38 : decode cX5_pots 38 = .ok (.iload_n 1, 1) := by decide +kernel
theorem dX5_pots_39 : decode cX5_pots 39 = .ok (.invokevirtual 91, 3) := by decide +kernel
theorem dX5_pots_42 : decode cX5_pots 42 = .ok (.aload_n 0, 1) := by decide +kernel
theorem dX5_pots_43 : decode cX5_pots 43 = .ok (.iload_n 2, 1) := by decide +kernel
theorem dX5_pots_44 : decode cX5_pots 44 = .ok (.invokevirtual 91, 3) := by decide +kernel
theorem dX5_pots_47 : decode cX5_pots 47 = .ok (.goto 72, 3) := by decide +kernel
theorem dX5_pots_50 : decode cX5_pots 50 = .ok (.aload_n 0, 1) := by decide +kernel
theorem dX5_pots_51 : decode cX5_pots 51 = .ok (.iload_n 1, 1) := by decide +kernel
theorem dX5_pots_52 : decode cX5_pots 52 = .ok (.invokevirtual 95, 3) := by decide +kernel
theorem dX5_pots_55 : decode cX5_pots 55 = .ok (.aload_n 0, 1) := by decide +kernel
theorem dX5_pots_56 : decode cX5_pots 56 = .ok (.iload_n 2, 1) := by decide +kernel
theorem dX5_pots_57 : decode cX5_pots 57 = .ok (.invokevirtual 95, 3) := by decide +kernel
theorem dX5_pots_60 : decode cX5_pots 60 = .ok (.aload_n 0, 1) := by decide +kernel
theorem dX5_pots_61 : decode cX5_pots 61 = .ok (.iconst 4, 1) := by decide +kernel
theorem dX5_pots_62 : decode cX5_pots 62 = .ok (.iload 4, 2) := by decide +kernel
theorem dX5_pots_64 : decode cX5_pots 64 = .ok (.iload 5, 2) := by decide +kernel
theorem dX5_pots_66 : decode cX5_pots 66 = .ok (.invokestatic 71, 3) := by decide +kernel
theorem dX5_pots_69 : decode cX5_pots 69 = .ok (.iadd, 1) := by decide +kernel
theorem dX5_pots_70 : decode cX5_pots 70 = .ok (.ldc 98, 2) := by decide +kernel
theorem dX5_pots_72 : decode cX5_pots 72 = .ok (.invokevirtual 74, 3) := by decide +kernel
theorem dX5_pots_75 : decode cX5_pots 75 = .ok (.aload_n 0, 1) := by decide +kernel
theorem dX5_pots_76 : decode cX5_pots 76 = .ok (.iconst 5, 1) := by decide +kernel
theorem dX5_pots_77 : decode cX5_pots 77 = .ok (.iload 5, 2) := by decide +kernel
theorem dX5_pots_79 : decode cX5_pots 79 = .ok (.ifCond .ne 7, 3) := by decide +kernel
theorem dX5_pots_82 : decode cX5_pots 82 = .ok (.iconst 1, 1) := by decide +kernel
theorem dX5_pots_83 : decode cX5_pots 83 = .ok (.goto 4, 3) := by decide +kernel
theorem dX5_pots_86 : decode cX5_pots 86 = .ok (.iconst 0, 1) := by decide +kernel
theorem dX5_pots_87 : decode cX5_pots 87 = .ok (.sipush 9999, 3) := by decide +kernel
theorem dX5_pots_90 : decode cX5_pots 90 = .ok (.invokevirtual 74, 3) := by decide +kernel
theorem dX5_pots_93 : decode cX5_pots 93 = .ok (.aload_n 0, 1) := by decide +kernel
theorem dX5_pots_94 : decode cX5_pots 94 = .ok (.bipush 6, 2) := by decide +kernel
theorem dX5_pots_96 : decode cX5_pots 96 = .ok (.iload 5, 2) := by decide +kernel
theorem dX5_pots_98 : decode cX5_pots 98 = .ok (.ifCond .ne 14, 3) := by decide +kernel
theorem dX5_pots_101 : decode cX5_pots 101 = .ok (.iload 4, 2) := by decide +kernel
theorem dX5_pots_103 : decode cX5_pots 103 = .ok (.bipush 40, 2) := by decide +kernel
theorem dX5_pots_105 : decode cX5_pots 105 = .ok (.if_icmp .lt 7, 3) := by decide +kernel
theorem dX5_pots_108 : decode cX5_pots 108 = .ok (.iconst 1, 1) := by decide +kernel
theorem dX5_pots_109 : decode cX5_pots 109 = .ok (.goto 4, 3) := by decide +kernel
theorem dX5_pots_112 : decode cX5_pots 112 = .ok (.iconst 0, 1) := by decide +kernel
theorem dX5_pots_113 : decode cX5_pots 113 = .ok (.sipush 9999, 3) := by decide +kernel
theorem dX5_pots_116 : decode cX5_pots 116 = .ok (.invokevirtual 74, 3) := by decide +kernel
theorem dX5_pots_119 : decode cX5_pots 119 = .ok (.aload_n 0, 1) := by decide +kernel
theorem dX5_pots_120 : decode cX5_pots 120 = .ok (.iload_n 1, 1) := by decide +kernel
theorem dX5_pots_121 : decode cX5_pots 121 = .ok (.iload_n 2, 1) := by decide +kernel
theorem dX5_pots_122 : decode cX5_pots 122 = .ok (.invokestatic 58, 3) := by decide +kernel
theorem dX5_pots_125 : decode cX5_pots 125 = .ok (.iload_n 3, 1) := by decide +kernel
theorem dX5_pots_126 : decode cX5_pots 126 = .ok (.bipush 99, 2) := by decide +kernel
theorem dX5_pots_128 : decode cX5_pots 128 = .ok (.invokevirtual 74, 3) := by decide +kernel
theorem dX5_pots_131 : decode cX5_pots 131 = .ok (.return_, 1) := by decide +kernel
theorem dX5_todays_0 : decode cX5_todays 0 = .ok (.aload_n 0, 1) := by decide +kernel
theorem dX5_todays_1 : decode cX5_todays 1 = .ok (.getfield 7, 3) := by decide +kernel
theorem dX5_todays_4 : decode cX5_todays 4 = .ok (.bipush 7, 2) := by decide +kernel
theorem dX5_todays_6 : decode cX5_todays 6 = .ok (.aload_n 0, 1) := by decide +kernel
theorem dX5_todays_7 : decode cX5_todays 7 = .ok (.getfield 7, 3) := by decide +kernel
theorem dX5_todays_10 : decode cX5_todays 10 = .ok (.iconst 1, 1) := by decide +kernel
theorem dX5_todays_11 : decode cX5_todays 11 = .ok (.iaload, 1) := by decide +kernel
theorem dX5_todays_12 : decode cX5_todays 12 = .ok (.bipush 6, 2) := by decide +kernel
theorem dX5_todays_14 : decode cX5_todays 14 = .ok (.irem, 1) := by decide +kernel
theorem dX5_todays_15 : decode cX5_todays 15 = .ok (.iadd, 1) := by decide +kernel
theorem dX5_todays_16 : decode cX5_todays 16 = .ok (.iaload, 1) := by decide +kernel
theorem dX5_todays_17 : decode cX5_todays 17 = .ok (.ireturn, 1) := by decide +kernel
theorem dX5_dayGoes_0 : decode cX5_dayGoes 0 = .ok (.aload_n 0, 1) := by decide +kernel
theorem dX5_dayGoes_1 : decode cX5_dayGoes 1 = .ok (.invokevirtual 99, 3) := by decide +kernel
theorem dX5_dayGoes_4 : decode cX5_dayGoes 4 = .ok (.bipush 10, 2) := by decide +kernel
theorem dX5_dayGoes_6 : decode cX5_dayGoes 6 = .ok (.idiv, 1) := by decide +kernel
theorem dX5_dayGoes_7 : decode cX5_dayGoes 7 = .ok (.istore_n 1, 1) := by decide +kernel
theorem dX5_dayGoes_8 : decode cX5_dayGoes 8 = .ok (.aload_n 0, 1) := by decide +kernel
theorem dX5_dayGoes_9 : decode cX5_dayGoes 9 = .ok (.invokevirtual 99, 3) := by decide +kernel
theorem dX5_dayGoes_12 : decode cX5_dayGoes 12 = .ok (.bipush 10, 2) := by decide +kernel
theorem dX5_dayGoes_14 : decode cX5_dayGoes 14 = .ok (.irem, 1) := by decide +kernel
theorem dX5_dayGoes_15 : decode cX5_dayGoes 15 = .ok (.istore_n 2, 1) := by decide +kernel
theorem dX5_dayGoes_16 : decode cX5_dayGoes 16 = .ok (.aload_n 0, 1) := by decide +kernel
theorem dX5_dayGoes_17 : decode cX5_dayGoes 17 = .ok (.iload_n 1, 1) := by decide +kernel
theorem dX5_dayGoes_18 : decode cX5_dayGoes 18 = .ok (.iload_n 2, 1) := by decide +kernel
theorem dX5_dayGoes_19 : decode cX5_dayGoes 19 = .ok (.invokevirtual 103, 3) := by decide +kernel
theorem dX5_dayGoes_22 : decode cX5_dayGoes 22 = .ok (.ifCond .eq 9, 3) := by decide +kernel
theorem dX5_dayGoes_25 : decode cX5_dayGoes 25 = .ok (.aload_n 0, 1) := by decide +kernel
theorem dX5_dayGoes_26 : decode cX5_dayGoes 26 = .ok (.iload_n 1, 1) := by decide +kernel
theorem dX5_dayGoes_27 : decode cX5_dayGoes 27 = .ok (.iload_n 2, 1) := by decide +kernel
theorem dX5_dayGoes_28 : decode cX5_dayGoes 28 = .ok (.invokevirtual 106, 3) := by decide +kernel
theorem dX5_dayGoes_31 : decode cX5_dayGoes 31 = .ok (.aload_n 0, 1) := by decide +kernel
theorem dX5_dayGoes_32 : decode cX5_dayGoes 32 = .ok (.getfield 7, 3) := by decide +kernel
theorem dX5_dayGoes_35 : decode cX5_dayGoes 35 = .ok (.iconst 1, 1) := by decide +kernel
theorem dX5_dayGoes_36 : decode cX5_dayGoes 36 = .ok (.iaload, 1) := by decide +kernel
theorem dX5_dayGoes_37 : decode cX5_dayGoes 37 = .ok (.bipush 10, 2) := by decide +kernel
theorem dX5_dayGoes_39 : decode cX5_dayGoes 39 = .ok (.irem, 1) := by decide +kernel
theorem dX5_dayGoes_40 : decode cX5_dayGoes 40 = .ok (.bipush 9, 2) := by decide +kernel
theorem dX5_dayGoes_42 : decode cX5_dayGoes 42 = .ok (.if_icmp .ne 32, 3) := by decide +kernel
theorem dX5_dayGoes_45 : decode cX5_dayGoes 45 = .ok (.iconst 0, 1) := by decide +kernel
theorem dX5_dayGoes_46 : decode cX5_dayGoes 46 = .ok (.istore_n 3, 1) := by decide +kernel
theorem dX5_dayGoes_47 : decode cX5_dayGoes 47 = .ok (.iload_n 3, 1) := by decide +kernel
theorem dX5_dayGoes_48 : decode cX5_dayGoes 48 = .ok (.aload_n 0, 1) := by decide +kernel
theorem dX5_dayGoes_49 : decode cX5_dayGoes 49 = .ok (.getfield 7, 3) := by decide +kernel
theorem dX5_dayGoes_52 : decode cX5_dayGoes 52 = .ok (.iconst 0, 1) := by decide +kernel
theorem dX5_dayGoes_53 : decode cX5_dayGoes 53 = .ok (.iaload, 1) := by decide +kernel
theorem dX5_dayGoes_54 : decode cX5_dayGoes 54 = .ok (.if_icmp .ge 20, 3) := by decide +kernel
theorem dX5_dayGoes_57 : decode cX5_dayGoes 57 = .ok (.aload_n 0, 1) := by decide +kernel
theorem dX5_dayGoes_58 : decode cX5_dayGoes 58 = .ok (.bipush 37, 2) := by decide +kernel
theorem dX5_dayGoes_60 : decode cX5_dayGoes 60 = .ok (.iload_n 3, 1) := by decide +kernel
theorem dX5_dayGoes_61 : decode cX5_dayGoes 61 = .ok (.iadd, 1) := by decide +kernel
theorem dX5_dayGoes_62 : decode cX5_dayGoes 62 = .ok (.iconst 1, 1) := by decide +kernel
theorem dX5_dayGoes_63 : decode cX5_dayGoes 63 = .ok (.bipush 99, 2) := by decide +kernel
theorem dX5_dayGoes_65 : decode cX5_dayGoes 65 = .ok (.invokevirtual 74, 3) := by decide +kernel
theorem dX5_dayGoes_68 : decode cX5_dayGoes 68 = .ok (.iinc 3 1, 3) := by decide +kernel
theorem dX5_dayGoes_71 : decode cX5_dayGoes 71 = .ok (.goto (-24), 3) := by decide +kernel
theorem dX5_dayGoes_74 : decode cX5_dayGoes 74 = .ok (.aload_n 0, 1) := by decide +kernel
theorem dX5_dayGoes_75 : decode cX5_dayGoes 75 = .ok (.iconst 1, 1) := by decide +kernel
theorem dX5_dayGoes_76 : decode cX5_dayGoes 76 = .ok (.iconst 1, 1) := by decide +kernel
theorem dX5_dayGoes_77 : decode cX5_dayGoes 77 = .ok (.ldc 98, 2) := by decide +kernel
theorem dX5_dayGoes_79 : decode cX5_dayGoes 79 = .ok (.invokevirtual 74, 3) := by decide +kernel
theorem dX5_dayGoes_82 : decode cX5_dayGoes 82 = .ok (.return_, 1) := by decide +kernel
theorem dX5_daysGo_0 : decode cX5_daysGo 0 = .ok (.iconst 0, 1) := by decide +kernel
theorem dX5_daysGo_1 : decode cX5_daysGo 1 = .ok (.istore_n 2, 1) := by decide +kernel
theorem dX5_daysGo_2 : decode cX5_daysGo 2 = .ok (.iload_n 2, 1) := by decide +kernel
theorem dX5_daysGo_3 : decode cX5_daysGo 3 = .ok (.iload_n 1, 1) := by decide +kernel
theorem dX5_daysGo_4 : decode cX5_daysGo 4 = .ok (.if_icmp .ge 13, 3) := by decide +kernel
theorem dX5_daysGo_7 : decode cX5_daysGo 7 = .ok (.aload_n 0, 1) := by decide +kernel
theorem dX5_daysGo_8 : decode cX5_daysGo 8 = .ok (.invokevirtual 110, 3) := by decide +kernel
theorem dX5_daysGo_11 : decode cX5_daysGo 11 = .ok (.iinc 2 1, 3) := by decide +kernel
theorem dX5_daysGo_14 : decode cX5_daysGo 14 = .ok (.goto (-12), 3) := by decide +kernel
theorem dX5_daysGo_17 : decode cX5_daysGo 17 = .ok (.return_, 1) := by decide +kernel
theorem dX5_sumOf_0 : decode cX5_sumOf 0 = .ok (.iconst 0, 1) := by decide +kernel
theorem dX5_sumOf_1 : decode cX5_sumOf 1 = .ok (.istore_n 2, 1) := by decide +kernel
theorem dX5_sumOf_2 : decode cX5_sumOf 2 = .ok (.iconst 0, 1) := by decide +kernel
theorem dX5_sumOf_3 : decode cX5_sumOf 3 = .ok (.istore_n 3, 1) := by decide +kernel
theorem dX5_sumOf_4 : decode cX5_sumOf 4 = .ok (.iload_n 3, 1) := by decide +kernel
theorem dX5_sumOf_5 : decode cX5_sumOf 5 = .ok (.aload_n 0, 1) := by decide +kernel
theorem dX5_sumOf_6 : decode cX5_sumOf 6 = .ok (.getfield 7, 3) := by decide +kernel
theorem dX5_sumOf_9 : decode cX5_sumOf 9 = .ok (.iconst 0, 1) := by decide +kernel
theorem dX5_sumOf_10 : decode cX5_sumOf 10 = .ok (.iaload, 1) := by decide +kernel
theorem dX5_sumOf_11 : decode cX5_sumOf 11 = .ok (.if_icmp .ge 18, 3) := by decide +kernel
theorem dX5_sumOf_14 : decode cX5_sumOf 14 = .ok (.iload_n 2, 1) := by decide +kernel
theorem dX5_sumOf_15 : decode cX5_sumOf 15 = .ok (.aload_n 0, 1) := by decide +kernel
theorem dX5_sumOf_16 : decode cX5_sumOf 16 = .ok (.iload_n 3, 1) := by decide +kernel
theorem dX5_sumOf_17 : decode cX5_sumOf 17 = .ok (.iload_n 1, 1) := by decide +kernel
theorem dX5_sumOf_18 : decode cX5_sumOf 18 = .ok (.invokevirtual 54, 3) := by decide +kernel
theorem dX5_sumOf_21 : decode cX5_sumOf 21 = .ok (.iadd, 1) := by decide +kernel
theorem dX5_sumOf_22 : decode cX5_sumOf 22 = .ok (.istore_n 2, 1) := by decide +kernel
theorem dX5_sumOf_23 : decode cX5_sumOf 23 = .ok (.iinc 3 1, 3) := by decide +kernel
theorem dX5_sumOf_26 : decode cX5_sumOf 26 = .ok (.goto (-22), 3) := by decide +kernel
theorem dX5_sumOf_29 : decode cX5_sumOf 29 = .ok (.iload_n 2, 1) := by decide +kernel
theorem dX5_sumOf_30 : decode cX5_sumOf 30 = .ok (.ireturn, 1) := by decide +kernel
theorem dX5_clay_0 : decode cX5_clay 0 = .ok (.iload_n 1, 1) := by decide +kernel
theorem dX5_clay_1 : decode cX5_clay 1 = .ok (.i2l, 1) := by decide +kernel
theorem dX5_clay_2 : decode cX5_clay 2 = .ok (.lconst 1, 1) := by decide +kernel
theorem dX5_clay_3 : decode cX5_clay 3 = .ok (.ldc2_w 113, 3) := by decide +kernel
theorem dX5_clay_6 : decode cX5_clay 6 = .ok (.invokestatic 42, 3) := by decide +kernel
theorem dX5_clay_9 : decode cX5_clay 9 = .ok (.ifCond .eq 12, 3) := by decide +kernel
theorem dX5_clay_12 : decode cX5_clay 12 = .ok (.aload_n 0, 1) := by decide +kernel
theorem dX5_clay_13 : decode cX5_clay 13 = .ok (.iconst 3, 1) := by decide +kernel
theorem dX5_clay_14 : decode cX5_clay 14 = .ok (.iload_n 1, 1) := by decide +kernel
theorem dX5_clay_15 : decode cX5_clay 15 = .ok (.invokevirtual 115, 3) := by decide +kernel
theorem dX5_clay_18 : decode cX5_clay 18 = .ok (.goto 8, 3) := by decide +kernel
theorem dX5_clay_21 : decode cX5_clay 21 = .ok (.aload_n 0, 1) := by decide +kernel
theorem dX5_clay_22 : decode cX5_clay 22 = .ok (.iconst 0, 1) := by decide +kernel
theorem dX5_clay_23 : decode cX5_clay 23 = .ok (.invokevirtual 118, 3) := by decide +kernel
theorem dX5_clay_26 : decode cX5_clay 26 = .ok (.ireturn, 1) := by decide +kernel
theorem dX5_pair_0 : decode cX5_pair 0 = .ok (.iload_n 1, 1) := by decide +kernel
theorem dX5_pair_1 : decode cX5_pair 1 = .ok (.i2l, 1) := by decide +kernel
theorem dX5_pair_2 : decode cX5_pair 2 = .ok (.lconst 0, 1) := by decide +kernel
theorem dX5_pair_3 : decode cX5_pair 3 = .ok (.ldc2_w 121, 3) := by decide +kernel
theorem dX5_pair_6 : decode cX5_pair 6 = .ok (.invokestatic 42, 3) := by decide +kernel
theorem dX5_pair_9 : decode cX5_pair 9 = .ok (.ifCond .eq 44, 3) := by decide +kernel
theorem dX5_pair_12 : decode cX5_pair 12 = .ok (.iload_n 2, 1) := by decide +kernel
theorem dX5_pair_13 : decode cX5_pair 13 = .ok (.i2l, 1) := by decide +kernel
theorem dX5_pair_14 : decode cX5_pair 14 = .ok (.lconst 0, 1) := by decide +kernel
theorem dX5_pair_15 : decode cX5_pair 15 = .ok (.ldc2_w 123, 3) := by decide +kernel
theorem dX5_pair_18 : decode cX5_pair 18 = .ok (.invokestatic 42, 3) := by decide +kernel
theorem dX5_pair_21 : decode cX5_pair 21 = .ok (.ifCond .eq 32, 3) := by decide +kernel
theorem dX5_pair_24 : decode cX5_pair 24 = .ok (.iload_n 3, 1) := by decide +kernel
theorem dX5_pair_25 : decode cX5_pair 25 = .ok (.i2l, 1) := by decide +kernel
theorem dX5_pair_26 : decode cX5_pair 26 = .ok (.lconst 0, 1) := by decide +kernel
theorem dX5_pair_27 : decode cX5_pair 27 = .ok (.ldc2_w 123, 3) := by decide +kernel
theorem dX5_pair_30 : decode cX5_pair 30 = .ok (.invokestatic 42, 3) := by decide +kernel
theorem dX5_pair_33 : decode cX5_pair 33 = .ok (.ifCond .eq 20, 3) := by decide +kernel
theorem dX5_pair_36 : decode cX5_pair 36 = .ok (.aload_n 0, 1) := by decide +kernel
theorem dX5_pair_37 : decode cX5_pair 37 = .ok (.bipush 7, 2) := by decide +kernel
theorem dX5_pair_39 : decode cX5_pair 39 = .ok (.iload_n 1, 1) := by decide +kernel
theorem dX5_pair_40 : decode cX5_pair 40 = .ok (.iadd, 1) := by decide +kernel
theorem dX5_pair_41 : decode cX5_pair 41 = .ok (.bipush 10, 2) := by decide +kernel
theorem dX5_pair_43 : decode cX5_pair 43 = .ok (.iload_n 2, 1) := by decide +kernel
theorem dX5_pair_44 : decode cX5_pair 44 = .ok (.imul, 1) := by decide +kernel
theorem dX5_pair_45 : decode cX5_pair 45 = .ok (.iload_n 3, 1) := by decide +kernel
theorem dX5_pair_46 : decode cX5_pair 46 = .ok (.iadd, 1) := by decide +kernel
theorem dX5_pair_47 : decode cX5_pair 47 = .ok (.invokevirtual 115, 3) := by decide +kernel
theorem dX5_pair_50 : decode cX5_pair 50 = .ok (.goto 8, 3) := by decide +kernel
theorem dX5_pair_53 : decode cX5_pair 53 = .ok (.aload_n 0, 1) := by decide +kernel
theorem dX5_pair_54 : decode cX5_pair 54 = .ok (.iconst 0, 1) := by decide +kernel
theorem dX5_pair_55 : decode cX5_pair 55 = .ok (.invokevirtual 118, 3) := by decide +kernel
theorem dX5_pair_58 : decode cX5_pair 58 = .ok (.ireturn, 1) := by decide +kernel
theorem dX5_listed_0 : decode cX5_listed 0 = .ok (.iload_n 1, 1) := by decide +kernel
theorem dX5_listed_1 : decode cX5_listed 1 = .ok (.i2l, 1) := by decide +kernel
theorem dX5_listed_2 : decode cX5_listed 2 = .ok (.lconst 0, 1) := by decide +kernel
theorem dX5_listed_3 : decode cX5_listed 3 = .ok (.ldc2_w 121, 3) := by decide +kernel
theorem dX5_listed_6 : decode cX5_listed 6 = .ok (.invokestatic 42, 3) := by decide +kernel
theorem dX5_listed_9 : decode cX5_listed 9 = .ok (.ifCond .eq 15, 3) := by decide +kernel
theorem dX5_listed_12 : decode cX5_listed 12 = .ok (.aload_n 0, 1) := by decide +kernel
theorem dX5_listed_13 : decode cX5_listed 13 = .ok (.getfield 7, 3) := by decide +kernel
theorem dX5_listed_16 : decode cX5_listed 16 = .ok (.bipush 7, 2) := by decide +kernel
theorem dX5_listed_18 : decode cX5_listed 18 = .ok (.iload_n 1, 1) := by decide +kernel
theorem dX5_listed_19 : decode cX5_listed 19 = .ok (.iadd, 1) := by decide +kernel
theorem dX5_listed_20 : decode cX5_listed 20 = .ok (.iaload, 1) := by decide +kernel
theorem dX5_listed_21 : decode cX5_listed 21 = .ok (.goto 8, 3) := by decide +kernel
theorem dX5_listed_24 : decode cX5_listed 24 = .ok (.aload_n 0, 1) := by decide +kernel
theorem dX5_listed_25 : decode cX5_listed 25 = .ok (.iconst 0, 1) := by decide +kernel
theorem dX5_listed_26 : decode cX5_listed 26 = .ok (.invokevirtual 118, 3) := by decide +kernel
theorem dX5_listed_29 : decode cX5_listed 29 = .ok (.ireturn, 1) := by decide +kernel
theorem dX5_comes_0 : decode cX5_comes 0 = .ok (.aload_n 0, 1) := by decide +kernel
theorem dX5_comes_1 : decode cX5_comes 1 = .ok (.getfield 7, 3) := by decide +kernel
theorem dX5_comes_4 : decode cX5_comes 4 = .ok (.iconst 0, 1) := by decide +kernel
theorem dX5_comes_5 : decode cX5_comes 5 = .ok (.iaload, 1) := by decide +kernel
theorem dX5_comes_6 : decode cX5_comes 6 = .ok (.istore_n 3, 1) := by decide +kernel
theorem dX5_comes_7 : decode cX5_comes 7 = .ok (.iconst 0, 1) := by decide +kernel
theorem dX5_comes_8 : decode cX5_comes 8 = .ok (.istore 4, 2) := by decide +kernel
theorem dX5_comes_10 : decode cX5_comes 10 = .ok (.iload 4, 2) := by decide +kernel
theorem dX5_comes_12 : decode cX5_comes 12 = .ok (.iconst 5, 1) := by decide +kernel
theorem dX5_comes_13 : decode cX5_comes 13 = .ok (.if_icmp .gt 17, 3) := by decide +kernel
theorem dX5_comes_16 : decode cX5_comes 16 = .ok (.aload_n 0, 1) := by decide +kernel
theorem dX5_comes_17 : decode cX5_comes 17 = .ok (.iload_n 3, 1) := by decide +kernel
theorem dX5_comes_18 : decode cX5_comes 18 = .ok (.iload 4, 2) := by decide +kernel
theorem dX5_comes_20 : decode cX5_comes 20 = .ok (.iconst 0, 1) := by decide +kernel
theorem dX5_comes_21 : decode cX5_comes 21 = .ok (.invokevirtual 125, 3) := by decide +kernel
theorem dX5_comes_24 : decode cX5_comes 24 = .ok (.iinc 4 1, 3) := by decide +kernel
theorem dX5_comes_27 : decode cX5_comes 27 = .ok (.goto (-17), 3) := by decide +kernel
theorem dX5_comes_30 : decode cX5_comes 30 = .ok (.aload_n 0, 1) := by decide +kernel
theorem dX5_comes_31 : decode cX5_comes 31 = .ok (.iload_n 3, 1) := by decide +kernel
theorem dX5_comes_32 : decode cX5_comes 32 = .ok (.iconst 0, 1) := by decide +kernel
theorem dX5_comes_33 : decode cX5_comes 33 = .ok (.iload_n 1, 1) := by decide +kernel
theorem dX5_comes_34 : decode cX5_comes 34 = .ok (.invokevirtual 125, 3) := by decide +kernel
theorem dX5_comes_37 : decode cX5_comes 37 = .ok (.aload_n 0, 1) := by decide +kernel
theorem dX5_comes_38 : decode cX5_comes 38 = .ok (.iload_n 3, 1) := by decide +kernel
theorem dX5_comes_39 : decode cX5_comes 39 = .ok (.iconst 1, 1) := by decide +kernel
theorem dX5_comes_40 : decode cX5_comes 40 = .ok (.iload_n 2, 1) := by decide +kernel
theorem dX5_comes_41 : decode cX5_comes 41 = .ok (.invokevirtual 125, 3) := by decide +kernel
theorem dX5_comes_44 : decode cX5_comes 44 = .ok (.aload_n 0, 1) := by decide +kernel
theorem dX5_comes_45 : decode cX5_comes 45 = .ok (.iload_n 3, 1) := by decide +kernel
theorem dX5_comes_46 : decode cX5_comes 46 = .ok (.iconst 2, 1) := by decide +kernel
theorem dX5_comes_47 : decode cX5_comes 47 = .ok (.bipush 20, 2) := by decide +kernel
theorem dX5_comes_49 : decode cX5_comes 49 = .ok (.invokevirtual 125, 3) := by decide +kernel
theorem dX5_comes_52 : decode cX5_comes 52 = .ok (.aload_n 0, 1) := by decide +kernel
theorem dX5_comes_53 : decode cX5_comes 53 = .ok (.getfield 7, 3) := by decide +kernel
theorem dX5_comes_56 : decode cX5_comes 56 = .ok (.iconst 0, 1) := by decide +kernel
theorem dX5_comes_57 : decode cX5_comes 57 = .ok (.dup2, 1) := by decide +kernel
theorem dX5_comes_58 : decode cX5_comes 58 = .ok (.iaload, 1) := by decide +kernel
theorem dX5_comes_59 : decode cX5_comes 59 = .ok (.iconst 1, 1) := by decide +kernel
theorem dX5_comes_60 : decode cX5_comes 60 = .ok (.iadd, 1) := by decide +kernel
theorem dX5_comes_61 : decode cX5_comes 61 = .ok (.iastore, 1) := by decide +kernel
theorem dX5_comes_62 : decode cX5_comes 62 = .ok (.iload_n 3, 1) := by decide +kernel
theorem dX5_comes_63 : decode cX5_comes 63 = .ok (.ireturn, 1) := by decide +kernel
theorem dX5_potter_0 : decode cX5_potter 0 = .ok (.iload_n 1, 1) := by decide +kernel
theorem dX5_potter_1 : decode cX5_potter 1 = .ok (.i2l, 1) := by decide +kernel
theorem dX5_potter_2 : decode cX5_potter 2 = .ok (.lconst 0, 1) := by decide +kernel
theorem dX5_potter_3 : decode cX5_potter 3 = .ok (.ldc2_w 128, 3) := by decide +kernel
theorem dX5_potter_6 : decode cX5_potter 6 = .ok (.invokestatic 42, 3) := by decide +kernel
theorem dX5_potter_9 : decode cX5_potter 9 = .ok (.ifCond .eq 15, 3) := by decide +kernel
theorem dX5_potter_12 : decode cX5_potter 12 = .ok (.iload_n 2, 1) := by decide +kernel
theorem dX5_potter_13 : decode cX5_potter 13 = .ok (.i2l, 1) := by decide +kernel
theorem dX5_potter_14 : decode cX5_potter 14 = .ok (.lconst 0, 1) := by decide +kernel
theorem dX5_potter_15 : decode cX5_potter 15 = .ok (.ldc2_w 130, 3) := by decide +kernel
theorem dX5_potter_18 : decode cX5_potter 18 = .ok (.invokestatic 42, 3) := by decide +kernel
theorem dX5_potter_21 : decode cX5_potter 21 = .ok (.ifCond .ne 9, 3) := by decide +kernel
theorem dX5_potter_24 : decode cX5_potter 24 = .ok (.aload_n 0, 1) := by decide +kernel
theorem dX5_potter_25 : decode cX5_potter 25 = .ok (.iconst 0, 1) := by decide +kernel
theorem dX5_potter_26 : decode cX5_potter 26 = .ok (.invokevirtual 118, 3) := by decide +kernel
theorem dX5_potter_29 : decode cX5_potter 29 = .ok (.ireturn, 1) := by decide +kernel
theorem dX5_potter_30 : decode cX5_potter 30 = .ok (.aload_n 0, 1) := by decide +kernel
theorem dX5_potter_31 : decode cX5_potter 31 = .ok (.getfield 7, 3) := by decide +kernel
theorem dX5_potter_34 : decode cX5_potter 34 = .ok (.iconst 0, 1) := by decide +kernel
theorem dX5_potter_35 : decode cX5_potter 35 = .ok (.iaload, 1) := by decide +kernel
theorem dX5_potter_36 : decode cX5_potter 36 = .ok (.bipush 8, 2) := by decide +kernel
theorem dX5_potter_38 : decode cX5_potter 38 = .ok (.if_icmp .ne 11, 3) := by decide +kernel
theorem dX5_potter_41 : decode cX5_potter 41 = .ok (.aload_n 0, 1) := by decide +kernel
theorem dX5_potter_42 : decode cX5_potter 42 = .ok (.iconst 1, 1) := by decide +kernel
theorem dX5_potter_43 : decode cX5_potter 43 = .ok (.invokevirtual 118, 3) := by decide +kernel
theorem dX5_potter_46 : decode cX5_potter 46 = .ok (.goto 9, 3) := by decide +kernel
theorem dX5_potter_49 : decode cX5_potter 49 = .ok (.aload_n 0, 1) := by decide +kernel
theorem dX5_potter_50 : decode cX5_potter 50 = .ok (.iload_n 1, 1) := by decide +kernel
theorem dX5_potter_51 : decode cX5_potter 51 = .ok (.iload_n 2, 1) := by decide +kernel
theorem dX5_potter_52 : decode cX5_potter 52 = .ok (.invokevirtual 132, 3) := by decide +kernel
theorem dX5_potter_55 : decode cX5_potter 55 = .ok (.ireturn, 1) := by decide +kernel
theorem dX5_of_0 : decode cX5_of 0 = .ok (.aload_n 0, 1) := by decide +kernel
theorem dX5_of_1 : decode cX5_of 1 = .ok (.iload_n 1, 1) := by decide +kernel
theorem dX5_of_2 : decode cX5_of 2 = .ok (.invokevirtual 46, 3) := by decide +kernel
theorem dX5_of_5 : decode cX5_of 5 = .ok (.ifCond .eq 15, 3) := by decide +kernel
theorem dX5_of_8 : decode cX5_of 8 = .ok (.iload_n 2, 1) := by decide +kernel
theorem dX5_of_9 : decode cX5_of 9 = .ok (.i2l, 1) := by decide +kernel
theorem dX5_of_10 : decode cX5_of 10 = .ok (.lconst 0, 1) := by decide +kernel
theorem dX5_of_11 : decode cX5_of 11 = .ok (.ldc2_w 135, 3) := by decide +kernel
theorem dX5_of_14 : decode cX5_of 14 = .ok (.invokestatic 42, 3) := by decide +kernel
theorem dX5_of_17 : decode cX5_of 17 = .ok (.ifCond .ne 9, 3) := by decide +kernel
theorem dX5_of_20 : decode cX5_of 20 = .ok (.aload_n 0, 1) := by decide +kernel
theorem dX5_of_21 : decode cX5_of 21 = .ok (.iconst 0, 1) := by decide +kernel
theorem dX5_of_22 : decode cX5_of 22 = .ok (.invokevirtual 118, 3) := by decide +kernel
theorem dX5_of_25 : decode cX5_of 25 = .ok (.ireturn, 1) := by decide +kernel
theorem dX5_of_26 : decode cX5_of 26 = .ok (.iload_n 2, 1) := by decide +kernel
theorem dX5_of_27 : decode cX5_of 27 = .ok (.tableswitch 53 6 9 #[29, 35, 41, 47], 29) := by decide +kernel
theorem dX5_of_56 : decode cX5_of 56 = .ok (.aload_n 0, 1) := by decide +kernel
theorem dX5_of_57 : decode cX5_of 57 = .ok (.iload_n 1, 1) := by decide +kernel
theorem dX5_of_58 : decode cX5_of 58 = .ok (.invokevirtual 61, 3) := by decide +kernel
theorem dX5_of_61 : decode cX5_of 61 = .ok (.ireturn, 1) := by decide +kernel
theorem dX5_of_62 : decode cX5_of 62 = .ok (.aload_n 0, 1) := by decide +kernel
theorem dX5_of_63 : decode cX5_of 63 = .ok (.iload_n 1, 1) := by decide +kernel
theorem dX5_of_64 : decode cX5_of 64 = .ok (.invokevirtual 84, 3) := by decide +kernel
theorem dX5_of_67 : decode cX5_of 67 = .ok (.ireturn, 1) := by decide +kernel
theorem dX5_of_68 : decode cX5_of 68 = .ok (.aload_n 0, 1) := by decide +kernel
theorem dX5_of_69 : decode cX5_of 69 = .ok (.iload_n 1, 1) := by decide +kernel
theorem dX5_of_70 : decode cX5_of 70 = .ok (.invokevirtual 81, 3) := by decide +kernel
theorem dX5_of_73 : decode cX5_of 73 = .ok (.ireturn, 1) := by decide +kernel
theorem dX5_of_74 : decode cX5_of 74 = .ok (.aload_n 0, 1) := by decide +kernel
theorem dX5_of_75 : decode cX5_of 75 = .ok (.iload_n 1, 1) := by decide +kernel
theorem dX5_of_76 : decode cX5_of 76 = .ok (.invokevirtual 78, 3) := by decide +kernel
theorem dX5_of_79 : decode cX5_of 79 = .ok (.ireturn, 1) := by decide +kernel
theorem dX5_of_80 : decode cX5_of 80 = .ok (.aload_n 0, 1) := by decide +kernel
theorem dX5_of_81 : decode cX5_of 81 = .ok (.iload_n 1, 1) := by decide +kernel
theorem dX5_of_82 : decode cX5_of 82 = .ok (.iload_n 2, 1) := by decide +kernel
theorem dX5_of_83 : decode cX5_of 83 = .ok (.invokevirtual 54, 3) := by decide +kernel
theorem dX5_of_86 : decode cX5_of 86 = .ok (.ireturn, 1) := by decide +kernel
theorem dX5_mostOf_0 : decode cX5_mostOf 0 = .ok (.iload_n 0, 1) := by decide +kernel
theorem dX5_mostOf_1 : decode cX5_mostOf 1 = .ok (.ifCond .ne 8, 3) := by decide +kernel
theorem dX5_mostOf_4 : decode cX5_mostOf 4 = .ok (.bipush 6, 2) := by decide +kernel
theorem dX5_mostOf_6 : decode cX5_mostOf 6 = .ok (.goto 16, 3) := by decide +kernel
theorem dX5_mostOf_9 : decode cX5_mostOf 9 = .ok (.iload_n 0, 1) := by decide +kernel
theorem dX5_mostOf_10 : decode cX5_mostOf 10 = .ok (.iconst 4, 1) := by decide +kernel
theorem dX5_mostOf_11 : decode cX5_mostOf 11 = .ok (.if_icmp .ge 8, 3) := by decide +kernel
theorem dX5_mostOf_14 : decode cX5_mostOf 14 = .ok (.bipush 99, 2) := by decide +kernel
theorem dX5_mostOf_16 : decode cX5_mostOf 16 = .ok (.goto 6, 3) := by decide +kernel
theorem dX5_mostOf_19 : decode cX5_mostOf 19 = .ok (.sipush 9999, 3) := by decide +kernel
theorem dX5_mostOf_22 : decode cX5_mostOf 22 = .ok (.ireturn, 1) := by decide +kernel
theorem dX5_change_0 : decode cX5_change 0 = .ok (.aload_n 0, 1) := by decide +kernel
theorem dX5_change_1 : decode cX5_change 1 = .ok (.iload_n 1, 1) := by decide +kernel
theorem dX5_change_2 : decode cX5_change 2 = .ok (.invokevirtual 46, 3) := by decide +kernel
theorem dX5_change_5 : decode cX5_change 5 = .ok (.ifCond .eq 46, 3) := by decide +kernel
theorem dX5_change_8 : decode cX5_change 8 = .ok (.iload_n 2, 1) := by decide +kernel
theorem dX5_change_9 : decode cX5_change 9 = .ok (.i2l, 1) := by decide +kernel
theorem dX5_change_10 : decode cX5_change 10 = .ok (.lconst 0, 1) := by decide +kernel
theorem dX5_change_11 : decode cX5_change 11 = .ok (.ldc2_w 121, 3) := by decide +kernel
theorem dX5_change_14 : decode cX5_change 14 = .ok (.invokestatic 42, 3) := by decide +kernel
theorem dX5_change_17 : decode cX5_change 17 = .ok (.ifCond .eq 34, 3) := by decide +kernel
theorem dX5_change_20 : decode cX5_change 20 = .ok (.iload_n 3, 1) := by decide +kernel
theorem dX5_change_21 : decode cX5_change 21 = .ok (.i2l, 1) := by decide +kernel
theorem dX5_change_22 : decode cX5_change 22 = .ok (.lconst 0, 1) := by decide +kernel
theorem dX5_change_23 : decode cX5_change 23 = .ok (.iload_n 2, 1) := by decide +kernel
theorem dX5_change_24 : decode cX5_change 24 = .ok (.invokestatic 137, 3) := by decide +kernel
theorem dX5_change_27 : decode cX5_change 27 = .ok (.i2l, 1) := by decide +kernel
theorem dX5_change_28 : decode cX5_change 28 = .ok (.invokestatic 42, 3) := by decide +kernel
theorem dX5_change_31 : decode cX5_change 31 = .ok (.ifCond .eq 20, 3) := by decide +kernel
theorem dX5_change_34 : decode cX5_change 34 = .ok (.aload_n 0, 1) := by decide +kernel
theorem dX5_change_35 : decode cX5_change 35 = .ok (.bipush 13, 2) := by decide +kernel
theorem dX5_change_37 : decode cX5_change 37 = .ok (.bipush 8, 2) := by decide +kernel
theorem dX5_change_39 : decode cX5_change 39 = .ok (.iload_n 2, 1) := by decide +kernel
theorem dX5_change_40 : decode cX5_change 40 = .ok (.imul, 1) := by decide +kernel
theorem dX5_change_41 : decode cX5_change 41 = .ok (.iadd, 1) := by decide +kernel
theorem dX5_change_42 : decode cX5_change 42 = .ok (.iload_n 1, 1) := by decide +kernel
theorem dX5_change_43 : decode cX5_change 43 = .ok (.iadd, 1) := by decide +kernel
theorem dX5_change_44 : decode cX5_change 44 = .ok (.iload_n 3, 1) := by decide +kernel
theorem dX5_change_45 : decode cX5_change 45 = .ok (.invokevirtual 115, 3) := by decide +kernel
theorem dX5_change_48 : decode cX5_change 48 = .ok (.goto 8, 3) := by decide +kernel
theorem dX5_change_51 : decode cX5_change 51 = .ok (.aload_n 0, 1) := by decide +kernel
theorem dX5_change_52 : decode cX5_change 52 = .ok (.iconst 0, 1) := by decide +kernel
theorem dX5_change_53 : decode cX5_change 53 = .ok (.invokevirtual 118, 3) := by decide +kernel
theorem dX5_change_56 : decode cX5_change 56 = .ok (.ireturn, 1) := by decide +kernel
theorem dX5_rift_0 : decode cX5_rift 0 = .ok (.aload_n 0, 1) := by decide +kernel
theorem dX5_rift_1 : decode cX5_rift 1 = .ok (.iload_n 1, 1) := by decide +kernel
theorem dX5_rift_2 : decode cX5_rift 2 = .ok (.iload_n 2, 1) := by decide +kernel
theorem dX5_rift_3 : decode cX5_rift 3 = .ok (.invokevirtual 103, 3) := by decide +kernel
theorem dX5_rift_6 : decode cX5_rift 6 = .ok (.ifCond .eq 28, 3) := by decide +kernel
theorem dX5_rift_9 : decode cX5_rift 9 = .ok (.iload_n 3, 1) := by decide +kernel
theorem dX5_rift_10 : decode cX5_rift 10 = .ok (.i2l, 1) := by decide +kernel
theorem dX5_rift_11 : decode cX5_rift 11 = .ok (.lconst 0, 1) := by decide +kernel
theorem dX5_rift_12 : decode cX5_rift 12 = .ok (.ldc2_w 130, 3) := by decide +kernel
theorem dX5_rift_15 : decode cX5_rift 15 = .ok (.invokestatic 42, 3) := by decide +kernel
theorem dX5_rift_18 : decode cX5_rift 18 = .ok (.ifCond .eq 16, 3) := by decide +kernel
theorem dX5_rift_21 : decode cX5_rift 21 = .ok (.aload_n 0, 1) := by decide +kernel
theorem dX5_rift_22 : decode cX5_rift 22 = .ok (.iload_n 1, 1) := by decide +kernel
theorem dX5_rift_23 : decode cX5_rift 23 = .ok (.iload_n 2, 1) := by decide +kernel
theorem dX5_rift_24 : decode cX5_rift 24 = .ok (.invokestatic 58, 3) := by decide +kernel
theorem dX5_rift_27 : decode cX5_rift 27 = .ok (.iload_n 3, 1) := by decide +kernel
theorem dX5_rift_28 : decode cX5_rift 28 = .ok (.invokevirtual 115, 3) := by decide +kernel
theorem dX5_rift_31 : decode cX5_rift 31 = .ok (.goto 8, 3) := by decide +kernel
theorem dX5_rift_34 : decode cX5_rift 34 = .ok (.aload_n 0, 1) := by decide +kernel
theorem dX5_rift_35 : decode cX5_rift 35 = .ok (.iconst 0, 1) := by decide +kernel
theorem dX5_rift_36 : decode cX5_rift 36 = .ok (.invokevirtual 118, 3) := by decide +kernel
theorem dX5_rift_39 : decode cX5_rift 39 = .ok (.ireturn, 1) := by decide +kernel
theorem dX5_two_0 : decode cX5_two 0 = .ok (.aload_n 0, 1) := by decide +kernel
theorem dX5_two_1 : decode cX5_two 1 = .ok (.iload_n 1, 1) := by decide +kernel
theorem dX5_two_2 : decode cX5_two 2 = .ok (.iload_n 2, 1) := by decide +kernel
theorem dX5_two_3 : decode cX5_two 3 = .ok (.invokevirtual 103, 3) := by decide +kernel
theorem dX5_two_6 : decode cX5_two 6 = .ok (.ifCond .eq 15, 3) := by decide +kernel
theorem dX5_two_9 : decode cX5_two 9 = .ok (.iload_n 3, 1) := by decide +kernel
theorem dX5_two_10 : decode cX5_two 10 = .ok (.i2l, 1) := by decide +kernel
theorem dX5_two_11 : decode cX5_two 11 = .ok (.lconst 0, 1) := by decide +kernel
theorem dX5_two_12 : decode cX5_two 12 = .ok (.ldc2_w 140, 3) := by decide +kernel
theorem dX5_two_15 : decode cX5_two 15 = .ok (.invokestatic 42, 3) := by decide +kernel
theorem dX5_two_18 : decode cX5_two 18 = .ok (.ifCond .ne 9, 3) := by decide +kernel
theorem dX5_two_21 : decode cX5_two 21 = .ok (.aload_n 0, 1) := by decide +kernel
theorem dX5_two_22 : decode cX5_two 22 = .ok (.iconst 0, 1) := by decide +kernel
theorem dX5_two_23 : decode cX5_two 23 = .ok (.invokevirtual 118, 3) := by decide +kernel
theorem dX5_two_26 : decode cX5_two 26 = .ok (.ireturn, 1) := by decide +kernel
theorem dX5_two_27 : decode cX5_two 27 = .ok (.iload_n 3, 1) := by decide +kernel
theorem dX5_two_28 : decode cX5_two 28 = .ok (.ifCond .ne 16, 3) := by decide +kernel
theorem dX5_two_31 : decode cX5_two 31 = .ok (.aload_n 0, 1) := by decide +kernel
theorem dX5_two_32 : decode cX5_two 32 = .ok (.getfield 7, 3) := by decide +kernel
theorem dX5_two_35 : decode cX5_two 35 = .ok (.iload_n 1, 1) := by decide +kernel
theorem dX5_two_36 : decode cX5_two 36 = .ok (.iload_n 2, 1) := by decide +kernel
theorem dX5_two_37 : decode cX5_two 37 = .ok (.invokestatic 58, 3) := by decide +kernel
theorem dX5_two_40 : decode cX5_two 40 = .ok (.iaload, 1) := by decide +kernel
theorem dX5_two_41 : decode cX5_two 41 = .ok (.goto 45, 3) := by decide +kernel
theorem dX5_two_44 : decode cX5_two 44 = .ok (.iload_n 3, 1) := by decide +kernel
theorem dX5_two_45 : decode cX5_two 45 = .ok (.iconst 1, 1) := by decide +kernel
theorem dX5_two_46 : decode cX5_two 46 = .ok (.if_icmp .ne 12, 3) := by decide +kernel
theorem dX5_two_49 : decode cX5_two 49 = .ok (.aload_n 0, 1) := by decide +kernel
theorem dX5_two_50 : decode cX5_two 50 = .ok (.iload_n 1, 1) := by decide +kernel
theorem dX5_two_51 : decode cX5_two 51 = .ok (.iload_n 2, 1) := by decide +kernel
theorem dX5_two_52 : decode cX5_two 52 = .ok (.invokevirtual 65, 3) := by decide +kernel
theorem dX5_two_55 : decode cX5_two 55 = .ok (.goto 31, 3) := by decide +kernel
theorem dX5_two_58 : decode cX5_two 58 = .ok (.iload_n 3, 1) := by decide +kernel
theorem dX5_two_59 : decode cX5_two 59 = .ok (.iconst 2, 1) := by decide +kernel
theorem dX5_two_60 : decode cX5_two 60 = .ok (.if_icmp .ne 12, 3) := by decide +kernel
theorem dX5_two_63 : decode cX5_two 63 = .ok (.aload_n 0, 1) := by decide +kernel
theorem dX5_two_64 : decode cX5_two 64 = .ok (.iload_n 1, 1) := by decide +kernel
theorem dX5_two_65 : decode cX5_two 65 = .ok (.iload_n 2, 1) := by decide +kernel
theorem dX5_two_66 : decode cX5_two 66 = .ok (.invokevirtual 68, 3) := by decide +kernel
theorem dX5_two_69 : decode cX5_two 69 = .ok (.goto 17, 3) := by decide +kernel
theorem dX5_two_72 : decode cX5_two 72 = .ok (.aload_n 0, 1) := by decide +kernel
theorem dX5_two_73 : decode cX5_two 73 = .ok (.iload_n 1, 1) := by decide +kernel
theorem dX5_two_74 : decode cX5_two 74 = .ok (.iload_n 2, 1) := by decide +kernel
theorem dX5_two_75 : decode cX5_two 75 = .ok (.invokevirtual 87, 3) := by decide +kernel
theorem dX5_two_78 : decode cX5_two 78 = .ok (.ifCond .eq 7, 3) := by decide +kernel
theorem dX5_two_81 : decode cX5_two 81 = .ok (.iconst 1, 1) := by decide +kernel
theorem dX5_two_82 : decode cX5_two 82 = .ok (.goto 4, 3) := by decide +kernel
theorem dX5_two_85 : decode cX5_two 85 = .ok (.iconst 0, 1) := by decide +kernel
theorem dX5_two_86 : decode cX5_two 86 = .ok (.ireturn, 1) := by decide +kernel
theorem dX5_go_0 : decode cX5_go 0 = .ok (.iload_n 1, 1) := by decide +kernel
theorem dX5_go_1 : decode cX5_go 1 = .ok (.i2l, 1) := by decide +kernel
theorem dX5_go_2 : decode cX5_go 2 = .ok (.lconst 1, 1) := by decide +kernel
theorem dX5_go_3 : decode cX5_go 3 = .ok (.ldc2_w 142, 3) := by decide +kernel
theorem dX5_go_6 : decode cX5_go 6 = .ok (.invokestatic 42, 3) := by decide +kernel
theorem dX5_go_9 : decode cX5_go 9 = .ok (.ifCond .ne 9, 3) := by decide +kernel
theorem dX5_go_12 : decode cX5_go 12 = .ok (.aload_n 0, 1) := by decide +kernel
theorem dX5_go_13 : decode cX5_go 13 = .ok (.iconst 0, 1) := by decide +kernel
theorem dX5_go_14 : decode cX5_go 14 = .ok (.invokevirtual 118, 3) := by decide +kernel
theorem dX5_go_17 : decode cX5_go 17 = .ok (.ireturn, 1) := by decide +kernel
theorem dX5_go_18 : decode cX5_go 18 = .ok (.aload_n 0, 1) := by decide +kernel
theorem dX5_go_19 : decode cX5_go 19 = .ok (.getfield 7, 3) := by decide +kernel
theorem dX5_go_22 : decode cX5_go 22 = .ok (.iconst 1, 1) := by decide +kernel
theorem dX5_go_23 : decode cX5_go 23 = .ok (.iaload, 1) := by decide +kernel
theorem dX5_go_24 : decode cX5_go 24 = .ok (.iload_n 1, 1) := by decide +kernel
theorem dX5_go_25 : decode cX5_go 25 = .ok (.iadd, 1) := by decide +kernel
theorem dX5_go_26 : decode cX5_go 26 = .ok (.ldc 98, 2) := by decide +kernel
theorem dX5_go_28 : decode cX5_go 28 = .ok (.if_icmp .le 9, 3) := by decide +kernel
theorem dX5_go_31 : decode cX5_go 31 = .ok (.aload_n 0, 1) := by decide +kernel
theorem dX5_go_32 : decode cX5_go 32 = .ok (.iconst 4, 1) := by decide +kernel
theorem dX5_go_33 : decode cX5_go 33 = .ok (.invokevirtual 118, 3) := by decide +kernel
theorem dX5_go_36 : decode cX5_go 36 = .ok (.ireturn, 1) := by decide +kernel
theorem dX5_go_37 : decode cX5_go 37 = .ok (.aload_n 0, 1) := by decide +kernel
theorem dX5_go_38 : decode cX5_go 38 = .ok (.iload_n 1, 1) := by decide +kernel
theorem dX5_go_39 : decode cX5_go 39 = .ok (.invokevirtual 144, 3) := by decide +kernel
theorem dX5_go_42 : decode cX5_go 42 = .ok (.aload_n 0, 1) := by decide +kernel
theorem dX5_go_43 : decode cX5_go 43 = .ok (.getfield 7, 3) := by decide +kernel
theorem dX5_go_46 : decode cX5_go 46 = .ok (.iconst 4, 1) := by decide +kernel
theorem dX5_go_47 : decode cX5_go 47 = .ok (.iaload, 1) := by decide +kernel
theorem dX5_go_48 : decode cX5_go 48 = .ok (.ireturn, 1) := by decide +kernel
theorem dX5_farthest_0 : decode cX5_farthest 0 = .ok (.iconst (-1), 1) := by decide +kernel
theorem dX5_farthest_1 : decode cX5_farthest 1 = .ok (.istore_n 1, 1) := by decide +kernel
theorem dX5_farthest_2 : decode cX5_farthest 2 = .ok (.iconst 0, 1) := by decide +kernel
theorem dX5_farthest_3 : decode cX5_farthest 3 = .ok (.istore_n 2, 1) := by decide +kernel
theorem dX5_farthest_4 : decode cX5_farthest 4 = .ok (.iload_n 2, 1) := by decide +kernel
theorem dX5_farthest_5 : decode cX5_farthest 5 = .ok (.aload_n 0, 1) := by decide +kernel
theorem dX5_farthest_6 : decode cX5_farthest 6 = .ok (.getfield 7, 3) := by decide +kernel
theorem dX5_farthest_9 : decode cX5_farthest 9 = .ok (.iconst 0, 1) := by decide +kernel
theorem dX5_farthest_10 : decode cX5_farthest 10 = .ok (.iaload, 1) := by decide +kernel
theorem dX5_farthest_11 : decode cX5_farthest 11 = .ok (.if_icmp .ge 70, 3) := by decide +kernel
theorem dX5_farthest_14 : decode cX5_farthest 14 = .ok (.iload_n 2, 1) := by decide +kernel
theorem dX5_farthest_15 : decode cX5_farthest 15 = .ok (.iconst 1, 1) := by decide +kernel
theorem dX5_farthest_16 : decode cX5_farthest 16 = .ok (.iadd, 1) := by decide +kernel
theorem dX5_farthest_17 : decode cX5_farthest 17 = .ok (.istore_n 3, 1) := by decide +kernel
theorem dX5_farthest_18 : decode cX5_farthest 18 = .ok (.iload_n 3, 1) := by decide +kernel
theorem dX5_farthest_19 : decode cX5_farthest 19 = .ok (.aload_n 0, 1) := by decide +kernel
theorem dX5_farthest_20 : decode cX5_farthest 20 = .ok (.getfield 7, 3) := by decide +kernel
theorem dX5_farthest_23 : decode cX5_farthest 23 = .ok (.iconst 0, 1) := by decide +kernel
theorem dX5_farthest_24 : decode cX5_farthest 24 = .ok (.iaload, 1) := by decide +kernel
theorem dX5_farthest_25 : decode cX5_farthest 25 = .ok (.if_icmp .ge 50, 3) := by decide +kernel
theorem dX5_farthest_28 : decode cX5_farthest 28 = .ok (.iload_n 1, 1) := by decide +kernel
theorem dX5_farthest_29 : decode cX5_farthest 29 = .ok (.ifCond .lt 29, 3) := by decide +kernel
theorem dX5_farthest_32 : decode cX5_farthest 32 = .ok (.aload_n 0, 1) := by decide +kernel
theorem dX5_farthest_33 : decode cX5_farthest 33 = .ok (.getfield 7, 3) := by decide +kernel
theorem dX5_farthest_36 : decode cX5_farthest 36 = .ok (.bipush 61, 2) := by decide +kernel
theorem dX5_farthest_38 : decode cX5_farthest 38 = .ok (.bipush 8, 2) := by decide +kernel
theorem dX5_farthest_40 : decode cX5_farthest 40 = .ok (.iload_n 2, 1) := by decide +kernel
theorem dX5_farthest_41 : decode cX5_farthest 41 = .ok (.imul, 1) := by decide +kernel
theorem dX5_farthest_42 : decode cX5_farthest 42 = .ok (.iadd, 1) := by decide +kernel
theorem dX5_farthest_43 : decode cX5_farthest 43 = .ok (.iload_n 3, 1) := by decide +kernel
theorem dX5_farthest_44 : decode cX5_farthest 44 = .ok (.iadd, 1) := by decide +kernel
theorem dX5_farthest_45 : decode cX5_farthest 45 = .ok (.iaload, 1) := by decide +kernel
theorem dX5_farthest_46 : decode cX5_farthest 46 = .ok (.aload_n 0, 1) := by decide +kernel
theorem dX5_farthest_47 : decode cX5_farthest 47 = .ok (.getfield 7, 3) := by decide +kernel
theorem dX5_farthest_50 : decode cX5_farthest 50 = .ok (.bipush 61, 2) := by decide +kernel
theorem dX5_farthest_52 : decode cX5_farthest 52 = .ok (.iload_n 1, 1) := by decide +kernel
theorem dX5_farthest_53 : decode cX5_farthest 53 = .ok (.iadd, 1) := by decide +kernel
theorem dX5_farthest_54 : decode cX5_farthest 54 = .ok (.iaload, 1) := by decide +kernel
theorem dX5_farthest_55 : decode cX5_farthest 55 = .ok (.if_icmp .le 12, 3) := by decide +kernel
theorem dX5_farthest_58 : decode cX5_farthest 58 = .ok (.bipush 8, 2) := by decide +kernel
theorem dX5_farthest_60 : decode cX5_farthest 60 = .ok (.iload_n 2, 1) := by decide +kernel
theorem dX5_farthest_61 : decode cX5_farthest 61 = .ok (.imul, 1) := by decide +kernel
theorem dX5_farthest_62 : decode cX5_farthest 62 = .ok (.iload_n 3, 1) := by decide +kernel
theorem dX5_farthest_63 : decode cX5_farthest 63 = .ok (.iadd, 1) := by decide +kernel
theorem dX5_farthest_64 : decode cX5_farthest 64 = .ok (.goto 4, 3) := by decide +kernel
theorem dX5_farthest_67 : decode cX5_farthest 67 = .ok (.iload_n 1, 1) := by decide +kernel
theorem dX5_farthest_68 : decode cX5_farthest 68 = .ok (.istore_n 1, 1) := by decide +kernel
theorem dX5_farthest_69 : decode cX5_farthest 69 = .ok (.iinc 3 1, 3) := by decide +kernel
theorem dX5_farthest_72 : decode cX5_farthest 72 = .ok (.goto (-54), 3) := by decide +kernel
theorem dX5_farthest_75 : decode cX5_farthest 75 = .ok (.iinc 2 1, 3) := by decide +kernel
theorem dX5_farthest_78 : decode cX5_farthest 78 = .ok (.goto (-74), 3) := by decide +kernel
theorem dX5_farthest_81 : decode cX5_farthest 81 = .ok (.iload_n 1, 1) := by decide +kernel
theorem dX5_farthest_82 : decode cX5_farthest 82 = .ok (.ireturn, 1) := by decide +kernel
theorem dX5_now_0 : decode cX5_now 0 = .ok (.iload_n 1, 1) := by decide +kernel
theorem dX5_now_1 : decode cX5_now 1 = .ok (.tableswitch 120 0 7 #[47, 54, 61, 68, 76, 82, 87, 93], 47) := by decide +kernel
theorem dX5_now_48 : decode cX5_now 48 = .ok (.aload_n 0, 1) := by decide +kernel
theorem dX5_now_49 : decode cX5_now 49 = .ok (.getfield 7, 3) := by decide +kernel
theorem dX5_now_52 : decode cX5_now 52 = .ok (.iconst 1, 1) := by decide +kernel
theorem dX5_now_53 : decode cX5_now 53 = .ok (.iaload, 1) := by decide +kernel
theorem dX5_now_54 : decode cX5_now 54 = .ok (.ireturn, 1) := by decide +kernel
theorem dX5_now_55 : decode cX5_now 55 = .ok (.aload_n 0, 1) := by decide +kernel
theorem dX5_now_56 : decode cX5_now 56 = .ok (.getfield 7, 3) := by decide +kernel
theorem dX5_now_59 : decode cX5_now 59 = .ok (.iconst 4, 1) := by decide +kernel
theorem dX5_now_60 : decode cX5_now 60 = .ok (.iaload, 1) := by decide +kernel
theorem dX5_now_61 : decode cX5_now 61 = .ok (.ireturn, 1) := by decide +kernel
theorem dX5_now_62 : decode cX5_now 62 = .ok (.aload_n 0, 1) := by decide +kernel
theorem dX5_now_63 : decode cX5_now 63 = .ok (.getfield 7, 3) := by decide +kernel
theorem dX5_now_66 : decode cX5_now 66 = .ok (.iconst 5, 1) := by decide +kernel
theorem dX5_now_67 : decode cX5_now 67 = .ok (.iaload, 1) := by decide +kernel
theorem dX5_now_68 : decode cX5_now 68 = .ok (.ireturn, 1) := by decide +kernel
theorem dX5_now_69 : decode cX5_now 69 = .ok (.aload_n 0, 1) := by decide +kernel
theorem dX5_now_70 : decode cX5_now 70 = .ok (.getfield 7, 3) := by decide +kernel
theorem dX5_now_73 : decode cX5_now 73 = .ok (.bipush 6, 2) := by decide +kernel
theorem dX5_now_75 : decode cX5_now 75 = .ok (.iaload, 1) := by decide +kernel
theorem dX5_now_76 : decode cX5_now 76 = .ok (.ireturn, 1) := by decide +kernel
theorem dX5_now_77 : decode cX5_now 77 = .ok (.aload_n 0, 1) := by decide +kernel
theorem dX5_now_78 : decode cX5_now 78 = .ok (.iconst 1, 1) := by decide +kernel
theorem dX5_now_79 : decode cX5_now 79 = .ok (.invokevirtual 147, 3) := by decide +kernel
theorem dX5_now_82 : decode cX5_now 82 = .ok (.ireturn, 1) := by decide +kernel
theorem dX5_now_83 : decode cX5_now 83 = .ok (.aload_n 0, 1) := by decide +kernel
theorem dX5_now_84 : decode cX5_now 84 = .ok (.invokevirtual 150, 3) := by decide +kernel
theorem dX5_now_87 : decode cX5_now 87 = .ok (.ireturn, 1) := by decide +kernel
theorem dX5_now_88 : decode cX5_now 88 = .ok (.aload_n 0, 1) := by decide +kernel
theorem dX5_now_89 : decode cX5_now 89 = .ok (.iconst 5, 1) := by decide +kernel
theorem dX5_now_90 : decode cX5_now 90 = .ok (.invokevirtual 147, 3) := by decide +kernel
theorem dX5_now_93 : decode cX5_now 93 = .ok (.ireturn, 1) := by decide +kernel
theorem dX5_now_94 : decode cX5_now 94 = .ok (.aload_n 0, 1) := by decide +kernel
theorem dX5_now_95 : decode cX5_now 95 = .ok (.aload_n 0, 1) := by decide +kernel
theorem dX5_now_96 : decode cX5_now 96 = .ok (.invokevirtual 99, 3) := by decide +kernel
theorem dX5_now_99 : decode cX5_now 99 = .ok (.bipush 10, 2) := by decide +kernel
theorem dX5_now_101 : decode cX5_now 101 = .ok (.idiv, 1) := by decide +kernel
theorem dX5_now_102 : decode cX5_now 102 = .ok (.aload_n 0, 1) := by decide +kernel
theorem dX5_now_103 : decode cX5_now 103 = .ok (.invokevirtual 99, 3) := by decide +kernel
theorem dX5_now_106 : decode cX5_now 106 = .ok (.bipush 10, 2) := by decide +kernel
theorem dX5_now_108 : decode cX5_now 108 = .ok (.irem, 1) := by decide +kernel
theorem dX5_now_109 : decode cX5_now 109 = .ok (.invokevirtual 103, 3) := by decide +kernel
theorem dX5_now_112 : decode cX5_now 112 = .ok (.ifCond .eq 7, 3) := by decide +kernel
theorem dX5_now_115 : decode cX5_now 115 = .ok (.iconst 1, 1) := by decide +kernel
theorem dX5_now_116 : decode cX5_now 116 = .ok (.goto 4, 3) := by decide +kernel
theorem dX5_now_119 : decode cX5_now 119 = .ok (.iconst 0, 1) := by decide +kernel
theorem dX5_now_120 : decode cX5_now 120 = .ok (.ireturn, 1) := by decide +kernel
theorem dX5_now_121 : decode cX5_now 121 = .ok (.aload_n 0, 1) := by decide +kernel
theorem dX5_now_122 : decode cX5_now 122 = .ok (.iconst 0, 1) := by decide +kernel
theorem dX5_now_123 : decode cX5_now 123 = .ok (.invokevirtual 118, 3) := by decide +kernel
theorem dX5_now_126 : decode cX5_now 126 = .ok (.ireturn, 1) := by decide +kernel
theorem dX5_behind_0 : decode cX5_behind 0 = .ok (.aload_n 0, 1) := by decide +kernel
theorem dX5_behind_1 : decode cX5_behind 1 = .ok (.iload_n 1, 1) := by decide +kernel
theorem dX5_behind_2 : decode cX5_behind 2 = .ok (.invokevirtual 144, 3) := by decide +kernel
theorem dX5_behind_5 : decode cX5_behind 5 = .ok (.aload_n 0, 1) := by decide +kernel
theorem dX5_behind_6 : decode cX5_behind 6 = .ok (.getfield 7, 3) := by decide +kernel
theorem dX5_behind_9 : decode cX5_behind 9 = .ok (.iload_n 2, 1) := by decide +kernel
theorem dX5_behind_10 : decode cX5_behind 10 = .ok (.iaload, 1) := by decide +kernel
theorem dX5_behind_11 : decode cX5_behind 11 = .ok (.istore_n 3, 1) := by decide +kernel
theorem dX5_behind_12 : decode cX5_behind 12 = .ok (.aload_n 0, 1) := by decide +kernel
theorem dX5_behind_13 : decode cX5_behind 13 = .ok (.getfield 16, 3) := by decide +kernel
theorem dX5_behind_16 : decode cX5_behind 16 = .ok (.aload_n 0, 1) := by decide +kernel
theorem dX5_behind_17 : decode cX5_behind 17 = .ok (.getfield 7, 3) := by decide +kernel
theorem dX5_behind_20 : decode cX5_behind 20 = .ok (.invokestatic 153, 3) := by decide +kernel
theorem dX5_behind_23 : decode cX5_behind 23 = .ok (.iload_n 3, 1) := by decide +kernel
theorem dX5_behind_24 : decode cX5_behind 24 = .ok (.ireturn, 1) := by decide +kernel
theorem dX5_ahead_0 : decode cX5_ahead 0 = .ok (.aload_n 0, 1) := by decide +kernel
theorem dX5_ahead_1 : decode cX5_ahead 1 = .ok (.iload_n 1, 1) := by decide +kernel
theorem dX5_ahead_2 : decode cX5_ahead 2 = .ok (.invokevirtual 46, 3) := by decide +kernel
theorem dX5_ahead_5 : decode cX5_ahead 5 = .ok (.ifCond .eq 34, 3) := by decide +kernel
theorem dX5_ahead_8 : decode cX5_ahead 8 = .ok (.iload_n 2, 1) := by decide +kernel
theorem dX5_ahead_9 : decode cX5_ahead 9 = .ok (.iconst 1, 1) := by decide +kernel
theorem dX5_ahead_10 : decode cX5_ahead 10 = .ok (.if_icmp .eq 17, 3) := by decide +kernel
theorem dX5_ahead_13 : decode cX5_ahead 13 = .ok (.iload_n 2, 1) := by decide +kernel
theorem dX5_ahead_14 : decode cX5_ahead 14 = .ok (.i2l, 1) := by decide +kernel
theorem dX5_ahead_15 : decode cX5_ahead 15 = .ok (.ldc2_w 140, 3) := by decide +kernel
theorem dX5_ahead_18 : decode cX5_ahead 18 = .ok (.ldc2_w 128, 3) := by decide +kernel
theorem dX5_ahead_21 : decode cX5_ahead 21 = .ok (.invokestatic 42, 3) := by decide +kernel
theorem dX5_ahead_24 : decode cX5_ahead 24 = .ok (.ifCond .eq 15, 3) := by decide +kernel
theorem dX5_ahead_27 : decode cX5_ahead 27 = .ok (.iload_n 3, 1) := by decide +kernel
theorem dX5_ahead_28 : decode cX5_ahead 28 = .ok (.i2l, 1) := by decide +kernel
theorem dX5_ahead_29 : decode cX5_ahead 29 = .ok (.lconst 0, 1) := by decide +kernel
theorem dX5_ahead_30 : decode cX5_ahead 30 = .ok (.ldc2_w 157, 3) := by decide +kernel
theorem dX5_ahead_33 : decode cX5_ahead 33 = .ok (.invokestatic 42, 3) := by decide +kernel
theorem dX5_ahead_36 : decode cX5_ahead 36 = .ok (.ifCond .ne 9, 3) := by decide +kernel
theorem dX5_ahead_39 : decode cX5_ahead 39 = .ok (.aload_n 0, 1) := by decide +kernel
theorem dX5_ahead_40 : decode cX5_ahead 40 = .ok (.iconst 0, 1) := by decide +kernel
theorem dX5_ahead_41 : decode cX5_ahead 41 = .ok (.invokevirtual 118, 3) := by decide +kernel
theorem dX5_ahead_44 : decode cX5_ahead 44 = .ok (.ireturn, 1) := by decide +kernel
theorem dX5_ahead_45 : decode cX5_ahead 45 = .ok (.aload_n 0, 1) := by decide +kernel
theorem dX5_ahead_46 : decode cX5_ahead 46 = .ok (.getfield 7, 3) := by decide +kernel
theorem dX5_ahead_49 : decode cX5_ahead 49 = .ok (.aload_n 0, 1) := by decide +kernel
theorem dX5_ahead_50 : decode cX5_ahead 50 = .ok (.getfield 16, 3) := by decide +kernel
theorem dX5_ahead_53 : decode cX5_ahead 53 = .ok (.invokestatic 153, 3) := by decide +kernel
theorem dX5_ahead_56 : decode cX5_ahead 56 = .ok (.aload_n 0, 1) := by decide +kernel
theorem dX5_ahead_57 : decode cX5_ahead 57 = .ok (.iload_n 3, 1) := by decide +kernel
theorem dX5_ahead_58 : decode cX5_ahead 58 = .ok (.invokevirtual 144, 3) := by decide +kernel
theorem dX5_ahead_61 : decode cX5_ahead 61 = .ok (.iload_n 2, 1) := by decide +kernel
theorem dX5_ahead_62 : decode cX5_ahead 62 = .ok (.bipush 6, 2) := by decide +kernel
theorem dX5_ahead_64 : decode cX5_ahead 64 = .ok (.if_icmp .ne 11, 3) := by decide +kernel
theorem dX5_ahead_67 : decode cX5_ahead 67 = .ok (.aload_n 0, 1) := by decide +kernel
theorem dX5_ahead_68 : decode cX5_ahead 68 = .ok (.iload_n 1, 1) := by decide +kernel
theorem dX5_ahead_69 : decode cX5_ahead 69 = .ok (.invokevirtual 61, 3) := by decide +kernel
theorem dX5_ahead_72 : decode cX5_ahead 72 = .ok (.goto 9, 3) := by decide +kernel
theorem dX5_ahead_75 : decode cX5_ahead 75 = .ok (.aload_n 0, 1) := by decide +kernel
theorem dX5_ahead_76 : decode cX5_ahead 76 = .ok (.iload_n 1, 1) := by decide +kernel
theorem dX5_ahead_77 : decode cX5_ahead 77 = .ok (.iload_n 2, 1) := by decide +kernel
theorem dX5_ahead_78 : decode cX5_ahead 78 = .ok (.invokevirtual 54, 3) := by decide +kernel
theorem dX5_ahead_81 : decode cX5_ahead 81 = .ok (.istore 4, 2) := by decide +kernel
theorem dX5_ahead_83 : decode cX5_ahead 83 = .ok (.aload_n 0, 1) := by decide +kernel
theorem dX5_ahead_84 : decode cX5_ahead 84 = .ok (.getfield 16, 3) := by decide +kernel
theorem dX5_ahead_87 : decode cX5_ahead 87 = .ok (.aload_n 0, 1) := by decide +kernel
theorem dX5_ahead_88 : decode cX5_ahead 88 = .ok (.getfield 7, 3) := by decide +kernel
theorem dX5_ahead_91 : decode cX5_ahead 91 = .ok (.invokestatic 153, 3) := by decide +kernel
theorem dX5_ahead_94 : decode cX5_ahead 94 = .ok (.iload 4, 2) := by decide +kernel
theorem dX5_ahead_96 : decode cX5_ahead 96 = .ok (.ireturn, 1) := by decide +kernel
theorem dX5_terms_0 : decode cX5_terms 0 = .ok (.aload_n 0, 1) := by decide +kernel
theorem dX5_terms_1 : decode cX5_terms 1 = .ok (.iload_n 1, 1) := by decide +kernel
theorem dX5_terms_2 : decode cX5_terms 2 = .ok (.iload_n 2, 1) := by decide +kernel
theorem dX5_terms_3 : decode cX5_terms 3 = .ok (.invokevirtual 103, 3) := by decide +kernel
theorem dX5_terms_6 : decode cX5_terms 6 = .ok (.ifCond .eq 15, 3) := by decide +kernel
theorem dX5_terms_9 : decode cX5_terms 9 = .ok (.iload_n 3, 1) := by decide +kernel
theorem dX5_terms_10 : decode cX5_terms 10 = .ok (.i2l, 1) := by decide +kernel
theorem dX5_terms_11 : decode cX5_terms 11 = .ok (.lconst 0, 1) := by decide +kernel
theorem dX5_terms_12 : decode cX5_terms 12 = .ok (.ldc2_w 157, 3) := by decide +kernel
theorem dX5_terms_15 : decode cX5_terms 15 = .ok (.invokestatic 42, 3) := by decide +kernel
theorem dX5_terms_18 : decode cX5_terms 18 = .ok (.ifCond .ne 9, 3) := by decide +kernel
theorem dX5_terms_21 : decode cX5_terms 21 = .ok (.aload_n 0, 1) := by decide +kernel
theorem dX5_terms_22 : decode cX5_terms 22 = .ok (.iconst 0, 1) := by decide +kernel
theorem dX5_terms_23 : decode cX5_terms 23 = .ok (.invokevirtual 118, 3) := by decide +kernel
theorem dX5_terms_26 : decode cX5_terms 26 = .ok (.ireturn, 1) := by decide +kernel
theorem dX5_terms_27 : decode cX5_terms 27 = .ok (.aload_n 0, 1) := by decide +kernel
theorem dX5_terms_28 : decode cX5_terms 28 = .ok (.getfield 7, 3) := by decide +kernel
theorem dX5_terms_31 : decode cX5_terms 31 = .ok (.aload_n 0, 1) := by decide +kernel
theorem dX5_terms_32 : decode cX5_terms 32 = .ok (.getfield 16, 3) := by decide +kernel
theorem dX5_terms_35 : decode cX5_terms 35 = .ok (.invokestatic 153, 3) := by decide +kernel
theorem dX5_terms_38 : decode cX5_terms 38 = .ok (.aload_n 0, 1) := by decide +kernel
theorem dX5_terms_39 : decode cX5_terms 39 = .ok (.iload_n 3, 1) := by decide +kernel
theorem dX5_terms_40 : decode cX5_terms 40 = .ok (.iload_n 1, 1) := by decide +kernel
theorem dX5_terms_41 : decode cX5_terms 41 = .ok (.iload_n 2, 1) := by decide +kernel
theorem dX5_terms_42 : decode cX5_terms 42 = .ok (.invokestatic 58, 3) := by decide +kernel
theorem dX5_terms_45 : decode cX5_terms 45 = .ok (.invokevirtual 159, 3) := by decide +kernel
theorem dX5_terms_48 : decode cX5_terms 48 = .ok (.ireturn, 1) := by decide +kernel
theorem dX5_firstOf_0 : decode cX5_firstOf 0 = .ok (.aload_n 0, 1) := by decide +kernel
theorem dX5_firstOf_1 : decode cX5_firstOf 1 = .ok (.getfield 7, 3) := by decide +kernel
theorem dX5_firstOf_4 : decode cX5_firstOf 4 = .ok (.aload_n 0, 1) := by decide +kernel
theorem dX5_firstOf_5 : decode cX5_firstOf 5 = .ok (.getfield 16, 3) := by decide +kernel
theorem dX5_firstOf_8 : decode cX5_firstOf 8 = .ok (.invokestatic 153, 3) := by decide +kernel
theorem dX5_firstOf_11 : decode cX5_firstOf 11 = .ok (.iconst 0, 1) := by decide +kernel
theorem dX5_firstOf_12 : decode cX5_firstOf 12 = .ok (.istore 4, 2) := by decide +kernel
theorem dX5_firstOf_14 : decode cX5_firstOf 14 = .ok (.iload 4, 2) := by decide +kernel
theorem dX5_firstOf_16 : decode cX5_firstOf 16 = .ok (.sipush 200, 3) := by decide +kernel
theorem dX5_firstOf_19 : decode cX5_firstOf 19 = .ok (.if_icmp .ge 30, 3) := by decide +kernel
theorem dX5_firstOf_22 : decode cX5_firstOf 22 = .ok (.aload_n 0, 1) := by decide +kernel
theorem dX5_firstOf_23 : decode cX5_firstOf 23 = .ok (.getfield 7, 3) := by decide +kernel
theorem dX5_firstOf_26 : decode cX5_firstOf 26 = .ok (.iload_n 1, 1) := by decide +kernel
theorem dX5_firstOf_27 : decode cX5_firstOf 27 = .ok (.iaload, 1) := by decide +kernel
theorem dX5_firstOf_28 : decode cX5_firstOf 28 = .ok (.i2l, 1) := by decide +kernel
theorem dX5_firstOf_29 : decode cX5_firstOf 29 = .ok (.iload_n 2, 1) := by decide +kernel
theorem dX5_firstOf_30 : decode cX5_firstOf 30 = .ok (.i2l, 1) := by decide +kernel
theorem dX5_firstOf_31 : decode cX5_firstOf 31 = .ok (.iload_n 3, 1) := by decide +kernel
theorem dX5_firstOf_32 : decode cX5_firstOf 32 = .ok (.i2l, 1) := by decide +kernel
theorem dX5_firstOf_33 : decode cX5_firstOf 33 = .ok (.invokestatic 42, 3) := by decide +kernel
theorem dX5_firstOf_36 : decode cX5_firstOf 36 = .ok (.ifCond .ne 13, 3) := by decide +kernel
theorem dX5_firstOf_39 : decode cX5_firstOf 39 = .ok (.aload_n 0, 1) := by decide +kernel
theorem dX5_firstOf_40 : decode cX5_firstOf 40 = .ok (.invokevirtual 110, 3) := by decide +kernel
theorem dX5_firstOf_43 : decode cX5_firstOf 43 = .ok (.iinc 4 1, 3) := by decide +kernel
theorem dX5_firstOf_46 : decode cX5_firstOf 46 = .ok (.goto (-32), 3) := by decide +kernel
theorem dX5_firstOf_49 : decode cX5_firstOf 49 = .ok (.aload_n 0, 1) := by decide +kernel
theorem dX5_firstOf_50 : decode cX5_firstOf 50 = .ok (.getfield 7, 3) := by decide +kernel
theorem dX5_firstOf_53 : decode cX5_firstOf 53 = .ok (.iload_n 1, 1) := by decide +kernel
theorem dX5_firstOf_54 : decode cX5_firstOf 54 = .ok (.iaload, 1) := by decide +kernel
theorem dX5_firstOf_55 : decode cX5_firstOf 55 = .ok (.i2l, 1) := by decide +kernel
theorem dX5_firstOf_56 : decode cX5_firstOf 56 = .ok (.iload_n 2, 1) := by decide +kernel
theorem dX5_firstOf_57 : decode cX5_firstOf 57 = .ok (.i2l, 1) := by decide +kernel
theorem dX5_firstOf_58 : decode cX5_firstOf 58 = .ok (.iload_n 3, 1) := by decide +kernel
theorem dX5_firstOf_59 : decode cX5_firstOf 59 = .ok (.i2l, 1) := by decide +kernel
theorem dX5_firstOf_60 : decode cX5_firstOf 60 = .ok (.invokestatic 42, 3) := by decide +kernel
theorem dX5_firstOf_63 : decode cX5_firstOf 63 = .ok (.istore 5, 2) := by decide +kernel
theorem dX5_firstOf_65 : decode cX5_firstOf 65 = .ok (.aload_n 0, 1) := by decide +kernel
theorem dX5_firstOf_66 : decode cX5_firstOf 66 = .ok (.getfield 16, 3) := by decide +kernel
theorem dX5_firstOf_69 : decode cX5_firstOf 69 = .ok (.aload_n 0, 1) := by decide +kernel
theorem dX5_firstOf_70 : decode cX5_firstOf 70 = .ok (.getfield 7, 3) := by decide +kernel
theorem dX5_firstOf_73 : decode cX5_firstOf 73 = .ok (.invokestatic 153, 3) := by decide +kernel
theorem dX5_firstOf_76 : decode cX5_firstOf 76 = .ok (.iload 5, 2) := by decide +kernel
theorem dX5_firstOf_78 : decode cX5_firstOf 78 = .ok (.ifCond .eq 8, 3) := by decide +kernel
theorem dX5_firstOf_81 : decode cX5_firstOf 81 = .ok (.iload 4, 2) := by decide +kernel
theorem dX5_firstOf_83 : decode cX5_firstOf 83 = .ok (.goto 8, 3) := by decide +kernel
theorem dX5_firstOf_86 : decode cX5_firstOf 86 = .ok (.aload_n 0, 1) := by decide +kernel
theorem dX5_firstOf_87 : decode cX5_firstOf 87 = .ok (.iconst 3, 1) := by decide +kernel
theorem dX5_firstOf_88 : decode cX5_firstOf 88 = .ok (.invokevirtual 118, 3) := by decide +kernel
theorem dX5_firstOf_91 : decode cX5_firstOf 91 = .ok (.ireturn, 1) := by decide +kernel
theorem dX5_next_0 : decode cX5_next 0 = .ok (.iload_n 1, 1) := by decide +kernel
theorem dX5_next_1 : decode cX5_next 1 = .ok (.i2l, 1) := by decide +kernel
theorem dX5_next_2 : decode cX5_next 2 = .ok (.lconst 0, 1) := by decide +kernel
theorem dX5_next_3 : decode cX5_next 3 = .ok (.lconst 1, 1) := by decide +kernel
theorem dX5_next_4 : decode cX5_next 4 = .ok (.invokestatic 42, 3) := by decide +kernel
theorem dX5_next_7 : decode cX5_next 7 = .ok (.ifCond .eq 26, 3) := by decide +kernel
theorem dX5_next_10 : decode cX5_next 10 = .ok (.aload_n 0, 1) := by decide +kernel
theorem dX5_next_11 : decode cX5_next 11 = .ok (.iconst 5, 1) := by decide +kernel
theorem dX5_next_12 : decode cX5_next 12 = .ok (.iload_n 1, 1) := by decide +kernel
theorem dX5_next_13 : decode cX5_next 13 = .ok (.iadd, 1) := by decide +kernel
theorem dX5_next_14 : decode cX5_next 14 = .ok (.aload_n 0, 1) := by decide +kernel
theorem dX5_next_15 : decode cX5_next 15 = .ok (.getfield 7, 3) := by decide +kernel
theorem dX5_next_18 : decode cX5_next 18 = .ok (.iconst 5, 1) := by decide +kernel
theorem dX5_next_19 : decode cX5_next 19 = .ok (.iload_n 1, 1) := by decide +kernel
theorem dX5_next_20 : decode cX5_next 20 = .ok (.iadd, 1) := by decide +kernel
theorem dX5_next_21 : decode cX5_next 21 = .ok (.iaload, 1) := by decide +kernel
theorem dX5_next_22 : decode cX5_next 22 = .ok (.iconst 1, 1) := by decide +kernel
theorem dX5_next_23 : decode cX5_next 23 = .ok (.iadd, 1) := by decide +kernel
theorem dX5_next_24 : decode cX5_next 24 = .ok (.sipush 9999, 3) := by decide +kernel
theorem dX5_next_27 : decode cX5_next 27 = .ok (.invokevirtual 162, 3) := by decide +kernel
theorem dX5_next_30 : decode cX5_next 30 = .ok (.goto 8, 3) := by decide +kernel
theorem dX5_next_33 : decode cX5_next 33 = .ok (.aload_n 0, 1) := by decide +kernel
theorem dX5_next_34 : decode cX5_next 34 = .ok (.iconst 0, 1) := by decide +kernel
theorem dX5_next_35 : decode cX5_next 35 = .ok (.invokevirtual 118, 3) := by decide +kernel
theorem dX5_next_38 : decode cX5_next 38 = .ok (.ireturn, 1) := by decide +kernel
theorem dX5_peace_0 : decode cX5_peace 0 = .ok (.aload_n 0, 1) := by decide +kernel
theorem dX5_peace_1 : decode cX5_peace 1 = .ok (.iload_n 1, 1) := by decide +kernel
theorem dX5_peace_2 : decode cX5_peace 2 = .ok (.iload_n 2, 1) := by decide +kernel
theorem dX5_peace_3 : decode cX5_peace 3 = .ok (.invokevirtual 103, 3) := by decide +kernel
theorem dX5_peace_6 : decode cX5_peace 6 = .ok (.ifCond .eq 29, 3) := by decide +kernel
theorem dX5_peace_9 : decode cX5_peace 9 = .ok (.iload_n 3, 1) := by decide +kernel
theorem dX5_peace_10 : decode cX5_peace 10 = .ok (.i2l, 1) := by decide +kernel
theorem dX5_peace_11 : decode cX5_peace 11 = .ok (.lconst 0, 1) := by decide +kernel
theorem dX5_peace_12 : decode cX5_peace 12 = .ok (.ldc2_w 130, 3) := by decide +kernel
theorem dX5_peace_15 : decode cX5_peace 15 = .ok (.invokestatic 42, 3) := by decide +kernel
theorem dX5_peace_18 : decode cX5_peace 18 = .ok (.ifCond .eq 17, 3) := by decide +kernel
theorem dX5_peace_21 : decode cX5_peace 21 = .ok (.aload_n 0, 1) := by decide +kernel
theorem dX5_peace_22 : decode cX5_peace 22 = .ok (.iload_n 1, 1) := by decide +kernel
theorem dX5_peace_23 : decode cX5_peace 23 = .ok (.iload_n 2, 1) := by decide +kernel
theorem dX5_peace_24 : decode cX5_peace 24 = .ok (.invokestatic 58, 3) := by decide +kernel
theorem dX5_peace_27 : decode cX5_peace 27 = .ok (.iconst 0, 1) := by decide +kernel
theorem dX5_peace_28 : decode cX5_peace 28 = .ok (.iload_n 3, 1) := by decide +kernel
theorem dX5_peace_29 : decode cX5_peace 29 = .ok (.invokevirtual 162, 3) := by decide +kernel
theorem dX5_peace_32 : decode cX5_peace 32 = .ok (.goto 8, 3) := by decide +kernel
theorem dX5_peace_35 : decode cX5_peace 35 = .ok (.aload_n 0, 1) := by decide +kernel
theorem dX5_peace_36 : decode cX5_peace 36 = .ok (.iconst 0, 1) := by decide +kernel
theorem dX5_peace_37 : decode cX5_peace 37 = .ok (.invokevirtual 118, 3) := by decide +kernel
theorem dX5_peace_40 : decode cX5_peace 40 = .ok (.ireturn, 1) := by decide +kernel
theorem dX5_when_0 : decode cX5_when 0 = .ok (.aload_n 0, 1) := by decide +kernel
theorem dX5_when_1 : decode cX5_when 1 = .ok (.iload_n 1, 1) := by decide +kernel
theorem dX5_when_2 : decode cX5_when 2 = .ok (.invokevirtual 46, 3) := by decide +kernel
theorem dX5_when_5 : decode cX5_when 5 = .ok (.ifCond .eq 30, 3) := by decide +kernel
theorem dX5_when_8 : decode cX5_when 8 = .ok (.iload_n 2, 1) := by decide +kernel
theorem dX5_when_9 : decode cX5_when 9 = .ok (.i2l, 1) := by decide +kernel
theorem dX5_when_10 : decode cX5_when 10 = .ok (.lconst 0, 1) := by decide +kernel
theorem dX5_when_11 : decode cX5_when 11 = .ok (.ldc2_w 165, 3) := by decide +kernel
theorem dX5_when_14 : decode cX5_when 14 = .ok (.invokestatic 42, 3) := by decide +kernel
theorem dX5_when_17 : decode cX5_when 17 = .ok (.ifCond .eq 18, 3) := by decide +kernel
theorem dX5_when_20 : decode cX5_when 20 = .ok (.aload_n 0, 1) := by decide +kernel
theorem dX5_when_21 : decode cX5_when 21 = .ok (.bipush 45, 2) := by decide +kernel
theorem dX5_when_23 : decode cX5_when 23 = .ok (.iload_n 1, 1) := by decide +kernel
theorem dX5_when_24 : decode cX5_when 24 = .ok (.iadd, 1) := by decide +kernel
theorem dX5_when_25 : decode cX5_when 25 = .ok (.iload_n 2, 1) := by decide +kernel
theorem dX5_when_26 : decode cX5_when 26 = .ok (.sipush 9999, 3) := by decide +kernel
theorem dX5_when_29 : decode cX5_when 29 = .ok (.invokevirtual 162, 3) := by decide +kernel
theorem dX5_when_32 : decode cX5_when 32 = .ok (.goto 8, 3) := by decide +kernel
theorem dX5_when_35 : decode cX5_when 35 = .ok (.aload_n 0, 1) := by decide +kernel
theorem dX5_when_36 : decode cX5_when 36 = .ok (.iconst 0, 1) := by decide +kernel
theorem dX5_when_37 : decode cX5_when 37 = .ok (.invokevirtual 118, 3) := by decide +kernel
theorem dX5_when_40 : decode cX5_when 40 = .ok (.ireturn, 1) := by decide +kernel
theorem dX5_isShort_0 : decode cX5_isShort 0 = .ok (.iload_n 0, 1) := by decide +kernel
theorem dX5_isShort_1 : decode cX5_isShort 1 = .ok (.i2l, 1) := by decide +kernel
theorem dX5_isShort_2 : decode cX5_isShort 2 = .ok (.lconst 0, 1) := by decide +kernel
theorem dX5_isShort_3 : decode cX5_isShort 3 = .ok (.ldc2_w 142, 3) := by decide +kernel
theorem dX5_isShort_6 : decode cX5_isShort 6 = .ok (.invokestatic 42, 3) := by decide +kernel
theorem dX5_isShort_9 : decode cX5_isShort 9 = .ok (.ireturn, 1) := by decide +kernel
theorem dX5_setWith_0 : decode cX5_setWith 0 = .ok (.iload_n 1, 1) := by decide +kernel
theorem dX5_setWith_1 : decode cX5_setWith 1 = .ok (.i2l, 1) := by decide +kernel
theorem dX5_setWith_2 : decode cX5_setWith 2 = .ok (.lconst 0, 1) := by decide +kernel
theorem dX5_setWith_3 : decode cX5_setWith 3 = .ok (.ldc2_w 121, 3) := by decide +kernel
theorem dX5_setWith_6 : decode cX5_setWith 6 = .ok (.invokestatic 42, 3) := by decide +kernel
theorem dX5_setWith_9 : decode cX5_setWith 9 = .ok (.ifCond .eq 18, 3) := by decide +kernel
theorem dX5_setWith_12 : decode cX5_setWith 12 = .ok (.aload_n 0, 1) := by decide +kernel
theorem dX5_setWith_13 : decode cX5_setWith 13 = .ok (.iload_n 2, 1) := by decide +kernel
theorem dX5_setWith_14 : decode cX5_setWith 14 = .ok (.invokevirtual 46, 3) := by decide +kernel
theorem dX5_setWith_17 : decode cX5_setWith 17 = .ok (.ifCond .eq 10, 3) := by decide +kernel
theorem dX5_setWith_20 : decode cX5_setWith 20 = .ok (.iload_n 3, 1) := by decide +kernel
theorem dX5_setWith_21 : decode cX5_setWith 21 = .ok (.invokestatic 167, 3) := by decide +kernel
theorem dX5_setWith_24 : decode cX5_setWith 24 = .ok (.ifCond .ne 9, 3) := by decide +kernel
theorem dX5_setWith_27 : decode cX5_setWith 27 = .ok (.aload_n 0, 1) := by decide +kernel
theorem dX5_setWith_28 : decode cX5_setWith 28 = .ok (.iconst 0, 1) := by decide +kernel
theorem dX5_setWith_29 : decode cX5_setWith 29 = .ok (.invokevirtual 118, 3) := by decide +kernel
theorem dX5_setWith_32 : decode cX5_setWith 32 = .ok (.ireturn, 1) := by decide +kernel
theorem dX5_setWith_33 : decode cX5_setWith 33 = .ok (.aload_n 0, 1) := by decide +kernel
theorem dX5_setWith_34 : decode cX5_setWith 34 = .ok (.getfield 7, 3) := by decide +kernel
theorem dX5_setWith_37 : decode cX5_setWith 37 = .ok (.aload_n 0, 1) := by decide +kernel
theorem dX5_setWith_38 : decode cX5_setWith 38 = .ok (.getfield 16, 3) := by decide +kernel
theorem dX5_setWith_41 : decode cX5_setWith 41 = .ok (.invokestatic 153, 3) := by decide +kernel
theorem dX5_setWith_44 : decode cX5_setWith 44 = .ok (.iconst (-1), 1) := by decide +kernel
theorem dX5_setWith_45 : decode cX5_setWith 45 = .ok (.istore 4, 2) := by decide +kernel
theorem dX5_setWith_47 : decode cX5_setWith 47 = .ok (.iconst (-1), 1) := by decide +kernel
theorem dX5_setWith_48 : decode cX5_setWith 48 = .ok (.istore 5, 2) := by decide +kernel
theorem dX5_setWith_50 : decode cX5_setWith 50 = .ok (.iconst 0, 1) := by decide +kernel
theorem dX5_setWith_51 : decode cX5_setWith 51 = .ok (.istore 6, 2) := by decide +kernel
theorem dX5_setWith_53 : decode cX5_setWith 53 = .ok (.iload 6, 2) := by decide +kernel
theorem dX5_setWith_55 : decode cX5_setWith 55 = .ok (.aload_n 0, 1) := by decide +kernel
theorem dX5_setWith_56 : decode cX5_setWith 56 = .ok (.getfield 7, 3) := by decide +kernel
theorem dX5_setWith_59 : decode cX5_setWith 59 = .ok (.iconst 0, 1) := by decide +kernel
theorem dX5_setWith_60 : decode cX5_setWith 60 = .ok (.iaload, 1) := by decide +kernel
theorem dX5_setWith_61 : decode cX5_setWith 61 = .ok (.if_icmp .ge 54, 3) := by decide +kernel
theorem dX5_setWith_64 : decode cX5_setWith 64 = .ok (.iload 6, 2) := by decide +kernel
theorem dX5_setWith_66 : decode cX5_setWith 66 = .ok (.iload_n 2, 1) := by decide +kernel
theorem dX5_setWith_67 : decode cX5_setWith 67 = .ok (.if_icmp .eq 42, 3) := by decide +kernel
theorem dX5_setWith_70 : decode cX5_setWith 70 = .ok (.aload_n 0, 1) := by decide +kernel
theorem dX5_setWith_71 : decode cX5_setWith 71 = .ok (.getfield 7, 3) := by decide +kernel
theorem dX5_setWith_74 : decode cX5_setWith 74 = .ok (.bipush 7, 2) := by decide +kernel
theorem dX5_setWith_76 : decode cX5_setWith 76 = .ok (.iload_n 1, 1) := by decide +kernel
theorem dX5_setWith_77 : decode cX5_setWith 77 = .ok (.iadd, 1) := by decide +kernel
theorem dX5_setWith_78 : decode cX5_setWith 78 = .ok (.bipush 10, 2) := by decide +kernel
theorem dX5_setWith_80 : decode cX5_setWith 80 = .ok (.iload_n 2, 1) := by decide +kernel
theorem dX5_setWith_81 : decode cX5_setWith 81 = .ok (.imul, 1) := by decide +kernel
theorem dX5_setWith_82 : decode cX5_setWith 82 = .ok (.iload 6, 2) := by decide +kernel
theorem dX5_setWith_84 : decode cX5_setWith 84 = .ok (.iadd, 1) := by decide +kernel
theorem dX5_setWith_85 : decode cX5_setWith 85 = .ok (.iastore, 1) := by decide +kernel
theorem dX5_setWith_86 : decode cX5_setWith 86 = .ok (.aload_n 0, 1) := by decide +kernel
theorem dX5_setWith_87 : decode cX5_setWith 87 = .ok (.iload_n 3, 1) := by decide +kernel
theorem dX5_setWith_88 : decode cX5_setWith 88 = .ok (.iconst 4, 1) := by decide +kernel
theorem dX5_setWith_89 : decode cX5_setWith 89 = .ok (.invokevirtual 159, 3) := by decide +kernel
theorem dX5_setWith_92 : decode cX5_setWith 92 = .ok (.istore 7, 2) := by decide +kernel
theorem dX5_setWith_94 : decode cX5_setWith 94 = .ok (.iload 7, 2) := by decide +kernel
theorem dX5_setWith_96 : decode cX5_setWith 96 = .ok (.iload 5, 2) := by decide +kernel
theorem dX5_setWith_98 : decode cX5_setWith 98 = .ok (.if_icmp .le 11, 3) := by decide +kernel
theorem dX5_setWith_101 : decode cX5_setWith 101 = .ok (.iload 6, 2) := by decide +kernel
theorem dX5_setWith_103 : decode cX5_setWith 103 = .ok (.istore 4, 2) := by decide +kernel
theorem dX5_setWith_105 : decode cX5_setWith 105 = .ok (.iload 7, 2) := by decide +kernel
theorem dX5_setWith_107 : decode cX5_setWith 107 = .ok (.istore 5, 2) := by decide +kernel
theorem dX5_setWith_109 : decode cX5_setWith 109 = .ok (.iinc 6 1, 3) := by decide +kernel
theorem dX5_setWith_112 : decode cX5_setWith 112 = .ok (.goto (-59), 3) := by decide +kernel
theorem dX5_setWith_115 : decode cX5_setWith 115 = .ok (.iload 4, 2) := by decide +kernel
theorem dX5_setWith_117 : decode cX5_setWith 117 = .ok (.ifCond .ge 11, 3) := by decide +kernel
theorem dX5_setWith_120 : decode cX5_setWith 120 = .ok (.aload_n 0, 1) := by decide +kernel
theorem dX5_setWith_121 : decode cX5_setWith 121 = .ok (.iconst 3, 1) := by decide +kernel
theorem dX5_setWith_122 : decode cX5_setWith 122 = .ok (.invokevirtual 118, 3) := by decide +kernel
theorem dX5_setWith_125 : decode cX5_setWith 125 = .ok (.goto 5, 3) := by decide +kernel
theorem dX5_setWith_128 : decode cX5_setWith 128 = .ok (.iload 4, 2) := by decide +kernel
theorem dX5_setWith_130 : decode cX5_setWith 130 = .ok (.ireturn, 1) := by decide +kernel
theorem dX5_bestOf_0 : decode cX5_bestOf 0 = .ok (.aload_n 0, 1) := by decide +kernel
theorem dX5_bestOf_1 : decode cX5_bestOf 1 = .ok (.getfield 7, 3) := by decide +kernel
theorem dX5_bestOf_4 : decode cX5_bestOf 4 = .ok (.aload_n 0, 1) := by decide +kernel
theorem dX5_bestOf_5 : decode cX5_bestOf 5 = .ok (.getfield 16, 3) := by decide +kernel
theorem dX5_bestOf_8 : decode cX5_bestOf 8 = .ok (.invokestatic 153, 3) := by decide +kernel
theorem dX5_bestOf_11 : decode cX5_bestOf 11 = .ok (.iconst 0, 1) := by decide +kernel
theorem dX5_bestOf_12 : decode cX5_bestOf 12 = .ok (.istore 4, 2) := by decide +kernel
theorem dX5_bestOf_14 : decode cX5_bestOf 14 = .ok (.iconst (-1), 1) := by decide +kernel
theorem dX5_bestOf_15 : decode cX5_bestOf 15 = .ok (.istore 5, 2) := by decide +kernel
theorem dX5_bestOf_17 : decode cX5_bestOf 17 = .ok (.iconst 0, 1) := by decide +kernel
theorem dX5_bestOf_18 : decode cX5_bestOf 18 = .ok (.istore 6, 2) := by decide +kernel
theorem dX5_bestOf_20 : decode cX5_bestOf 20 = .ok (.iload 6, 2) := by decide +kernel
theorem dX5_bestOf_22 : decode cX5_bestOf 22 = .ok (.iload_n 2, 1) := by decide +kernel
theorem dX5_bestOf_23 : decode cX5_bestOf 23 = .ok (.if_icmp .gt 40, 3) := by decide +kernel
theorem dX5_bestOf_26 : decode cX5_bestOf 26 = .ok (.aload_n 0, 1) := by decide +kernel
theorem dX5_bestOf_27 : decode cX5_bestOf 27 = .ok (.getfield 7, 3) := by decide +kernel
theorem dX5_bestOf_30 : decode cX5_bestOf 30 = .ok (.iload_n 1, 1) := by decide +kernel
theorem dX5_bestOf_31 : decode cX5_bestOf 31 = .ok (.iload 6, 2) := by decide +kernel
theorem dX5_bestOf_33 : decode cX5_bestOf 33 = .ok (.iastore, 1) := by decide +kernel
theorem dX5_bestOf_34 : decode cX5_bestOf 34 = .ok (.aload_n 0, 1) := by decide +kernel
theorem dX5_bestOf_35 : decode cX5_bestOf 35 = .ok (.iload_n 3, 1) := by decide +kernel
theorem dX5_bestOf_36 : decode cX5_bestOf 36 = .ok (.iconst 4, 1) := by decide +kernel
theorem dX5_bestOf_37 : decode cX5_bestOf 37 = .ok (.invokevirtual 159, 3) := by decide +kernel
theorem dX5_bestOf_40 : decode cX5_bestOf 40 = .ok (.istore 7, 2) := by decide +kernel
theorem dX5_bestOf_42 : decode cX5_bestOf 42 = .ok (.iload 7, 2) := by decide +kernel
theorem dX5_bestOf_44 : decode cX5_bestOf 44 = .ok (.iload 5, 2) := by decide +kernel
theorem dX5_bestOf_46 : decode cX5_bestOf 46 = .ok (.if_icmp .le 11, 3) := by decide +kernel
theorem dX5_bestOf_49 : decode cX5_bestOf 49 = .ok (.iload 6, 2) := by decide +kernel
theorem dX5_bestOf_51 : decode cX5_bestOf 51 = .ok (.istore 4, 2) := by decide +kernel
theorem dX5_bestOf_53 : decode cX5_bestOf 53 = .ok (.iload 7, 2) := by decide +kernel
theorem dX5_bestOf_55 : decode cX5_bestOf 55 = .ok (.istore 5, 2) := by decide +kernel
theorem dX5_bestOf_57 : decode cX5_bestOf 57 = .ok (.iinc 6 1, 3) := by decide +kernel
theorem dX5_bestOf_60 : decode cX5_bestOf 60 = .ok (.goto (-40), 3) := by decide +kernel
theorem dX5_bestOf_63 : decode cX5_bestOf 63 = .ok (.iload 4, 2) := by decide +kernel
theorem dX5_bestOf_65 : decode cX5_bestOf 65 = .ok (.ireturn, 1) := by decide +kernel
theorem dX5_heatFor_0 : decode cX5_heatFor 0 = .ok (.aload_n 0, 1) := by decide +kernel
theorem dX5_heatFor_1 : decode cX5_heatFor 1 = .ok (.iload_n 1, 1) := by decide +kernel
theorem dX5_heatFor_2 : decode cX5_heatFor 2 = .ok (.invokevirtual 46, 3) := by decide +kernel
theorem dX5_heatFor_5 : decode cX5_heatFor 5 = .ok (.ifCond .eq 24, 3) := by decide +kernel
theorem dX5_heatFor_8 : decode cX5_heatFor 8 = .ok (.iload_n 2, 1) := by decide +kernel
theorem dX5_heatFor_9 : decode cX5_heatFor 9 = .ok (.invokestatic 167, 3) := by decide +kernel
theorem dX5_heatFor_12 : decode cX5_heatFor 12 = .ok (.ifCond .eq 17, 3) := by decide +kernel
theorem dX5_heatFor_15 : decode cX5_heatFor 15 = .ok (.aload_n 0, 1) := by decide +kernel
theorem dX5_heatFor_16 : decode cX5_heatFor 16 = .ok (.bipush 21, 2) := by decide +kernel
theorem dX5_heatFor_18 : decode cX5_heatFor 18 = .ok (.iload_n 1, 1) := by decide +kernel
theorem dX5_heatFor_19 : decode cX5_heatFor 19 = .ok (.iadd, 1) := by decide +kernel
theorem dX5_heatFor_20 : decode cX5_heatFor 20 = .ok (.bipush 99, 2) := by decide +kernel
theorem dX5_heatFor_22 : decode cX5_heatFor 22 = .ok (.iload_n 2, 1) := by decide +kernel
theorem dX5_heatFor_23 : decode cX5_heatFor 23 = .ok (.invokevirtual 170, 3) := by decide +kernel
theorem dX5_heatFor_26 : decode cX5_heatFor 26 = .ok (.goto 8, 3) := by decide +kernel
theorem dX5_heatFor_29 : decode cX5_heatFor 29 = .ok (.aload_n 0, 1) := by decide +kernel
theorem dX5_heatFor_30 : decode cX5_heatFor 30 = .ok (.iconst 0, 1) := by decide +kernel
theorem dX5_heatFor_31 : decode cX5_heatFor 31 = .ok (.invokevirtual 118, 3) := by decide +kernel
theorem dX5_heatFor_34 : decode cX5_heatFor 34 = .ok (.ireturn, 1) := by decide +kernel
theorem dX5_kindFor_0 : decode cX5_kindFor 0 = .ok (.aload_n 0, 1) := by decide +kernel
theorem dX5_kindFor_1 : decode cX5_kindFor 1 = .ok (.iload_n 1, 1) := by decide +kernel
theorem dX5_kindFor_2 : decode cX5_kindFor 2 = .ok (.invokevirtual 46, 3) := by decide +kernel
theorem dX5_kindFor_5 : decode cX5_kindFor 5 = .ok (.ifCond .eq 24, 3) := by decide +kernel
theorem dX5_kindFor_8 : decode cX5_kindFor 8 = .ok (.iload_n 2, 1) := by decide +kernel
theorem dX5_kindFor_9 : decode cX5_kindFor 9 = .ok (.invokestatic 167, 3) := by decide +kernel
theorem dX5_kindFor_12 : decode cX5_kindFor 12 = .ok (.ifCond .eq 17, 3) := by decide +kernel
theorem dX5_kindFor_15 : decode cX5_kindFor 15 = .ok (.aload_n 0, 1) := by decide +kernel
theorem dX5_kindFor_16 : decode cX5_kindFor 16 = .ok (.bipush 13, 2) := by decide +kernel
theorem dX5_kindFor_18 : decode cX5_kindFor 18 = .ok (.iload_n 1, 1) := by decide +kernel
theorem dX5_kindFor_19 : decode cX5_kindFor 19 = .ok (.iadd, 1) := by decide +kernel
theorem dX5_kindFor_20 : decode cX5_kindFor 20 = .ok (.bipush 6, 2) := by decide +kernel
theorem dX5_kindFor_22 : decode cX5_kindFor 22 = .ok (.iload_n 2, 1) := by decide +kernel
theorem dX5_kindFor_23 : decode cX5_kindFor 23 = .ok (.invokevirtual 170, 3) := by decide +kernel
theorem dX5_kindFor_26 : decode cX5_kindFor 26 = .ok (.goto 8, 3) := by decide +kernel
theorem dX5_kindFor_29 : decode cX5_kindFor 29 = .ok (.aload_n 0, 1) := by decide +kernel
theorem dX5_kindFor_30 : decode cX5_kindFor 30 = .ok (.iconst 0, 1) := by decide +kernel
theorem dX5_kindFor_31 : decode cX5_kindFor 31 = .ok (.invokevirtual 118, 3) := by decide +kernel
theorem dX5_kindFor_34 : decode cX5_kindFor 34 = .ok (.ireturn, 1) := by decide +kernel
theorem dX5_clayFor_0 : decode cX5_clayFor 0 = .ok (.aload_n 0, 1) := by decide +kernel
theorem dX5_clayFor_1 : decode cX5_clayFor 1 = .ok (.iload_n 1, 1) := by decide +kernel
theorem dX5_clayFor_2 : decode cX5_clayFor 2 = .ok (.invokevirtual 46, 3) := by decide +kernel
theorem dX5_clayFor_5 : decode cX5_clayFor 5 = .ok (.ifCond .eq 10, 3) := by decide +kernel
theorem dX5_clayFor_8 : decode cX5_clayFor 8 = .ok (.iload_n 2, 1) := by decide +kernel
theorem dX5_clayFor_9 : decode cX5_clayFor 9 = .ok (.invokestatic 167, 3) := by decide +kernel
theorem dX5_clayFor_12 : decode cX5_clayFor 12 = .ok (.ifCond .ne 9, 3) := by decide +kernel
theorem dX5_clayFor_15 : decode cX5_clayFor 15 = .ok (.aload_n 0, 1) := by decide +kernel
theorem dX5_clayFor_16 : decode cX5_clayFor 16 = .ok (.iconst 0, 1) := by decide +kernel
theorem dX5_clayFor_17 : decode cX5_clayFor 17 = .ok (.invokevirtual 118, 3) := by decide +kernel
theorem dX5_clayFor_20 : decode cX5_clayFor 20 = .ok (.ireturn, 1) := by decide +kernel
theorem dX5_clayFor_21 : decode cX5_clayFor 21 = .ok (.aload_n 0, 1) := by decide +kernel
theorem dX5_clayFor_22 : decode cX5_clayFor 22 = .ok (.getfield 7, 3) := by decide +kernel
theorem dX5_clayFor_25 : decode cX5_clayFor 25 = .ok (.aload_n 0, 1) := by decide +kernel
theorem dX5_clayFor_26 : decode cX5_clayFor 26 = .ok (.getfield 16, 3) := by decide +kernel
theorem dX5_clayFor_29 : decode cX5_clayFor 29 = .ok (.invokestatic 153, 3) := by decide +kernel
theorem dX5_clayFor_32 : decode cX5_clayFor 32 = .ok (.iconst 1, 1) := by decide +kernel
theorem dX5_clayFor_33 : decode cX5_clayFor 33 = .ok (.istore_n 3, 1) := by decide +kernel
theorem dX5_clayFor_34 : decode cX5_clayFor 34 = .ok (.iload_n 3, 1) := by decide +kernel
theorem dX5_clayFor_35 : decode cX5_clayFor 35 = .ok (.bipush 20, 2) := by decide +kernel
theorem dX5_clayFor_37 : decode cX5_clayFor 37 = .ok (.if_icmp .gt 36, 3) := by decide +kernel
theorem dX5_clayFor_40 : decode cX5_clayFor 40 = .ok (.aload_n 0, 1) := by decide +kernel
theorem dX5_clayFor_41 : decode cX5_clayFor 41 = .ok (.getfield 7, 3) := by decide +kernel
theorem dX5_clayFor_44 : decode cX5_clayFor 44 = .ok (.iconst 3, 1) := by decide +kernel
theorem dX5_clayFor_45 : decode cX5_clayFor 45 = .ok (.iload_n 3, 1) := by decide +kernel
theorem dX5_clayFor_46 : decode cX5_clayFor 46 = .ok (.iastore, 1) := by decide +kernel
theorem dX5_clayFor_47 : decode cX5_clayFor 47 = .ok (.aload_n 0, 1) := by decide +kernel
theorem dX5_clayFor_48 : decode cX5_clayFor 48 = .ok (.iload_n 2, 1) := by decide +kernel
theorem dX5_clayFor_49 : decode cX5_clayFor 49 = .ok (.bipush 53, 2) := by decide +kernel
theorem dX5_clayFor_51 : decode cX5_clayFor 51 = .ok (.iload_n 1, 1) := by decide +kernel
theorem dX5_clayFor_52 : decode cX5_clayFor 52 = .ok (.iadd, 1) := by decide +kernel
theorem dX5_clayFor_53 : decode cX5_clayFor 53 = .ok (.invokevirtual 159, 3) := by decide +kernel
theorem dX5_clayFor_56 : decode cX5_clayFor 56 = .ok (.aload_n 0, 1) := by decide +kernel
theorem dX5_clayFor_57 : decode cX5_clayFor 57 = .ok (.iload_n 1, 1) := by decide +kernel
theorem dX5_clayFor_58 : decode cX5_clayFor 58 = .ok (.iconst 5, 1) := by decide +kernel
theorem dX5_clayFor_59 : decode cX5_clayFor 59 = .ok (.invokevirtual 54, 3) := by decide +kernel
theorem dX5_clayFor_62 : decode cX5_clayFor 62 = .ok (.if_icmp .ne 5, 3) := by decide +kernel
theorem dX5_clayFor_65 : decode cX5_clayFor 65 = .ok (.iload_n 3, 1) := by decide +kernel
theorem dX5_clayFor_66 : decode cX5_clayFor 66 = .ok (.ireturn, 1) := by decide +kernel
theorem dX5_clayFor_67 : decode cX5_clayFor 67 = .ok (.iinc 3 1, 3) := by decide +kernel
theorem dX5_clayFor_70 : decode cX5_clayFor 70 = .ok (.goto (-36), 3) := by decide +kernel
theorem dX5_clayFor_73 : decode cX5_clayFor 73 = .ok (.aload_n 0, 1) := by decide +kernel
theorem dX5_clayFor_74 : decode cX5_clayFor 74 = .ok (.iconst 3, 1) := by decide +kernel
theorem dX5_clayFor_75 : decode cX5_clayFor 75 = .ok (.invokevirtual 118, 3) := by decide +kernel
theorem dX5_clayFor_78 : decode cX5_clayFor 78 = .ok (.ireturn, 1) := by decide +kernel
theorem dX5_reconciles_0 : decode cX5_reconciles 0 = .ok (.iconst 0, 1) := by decide +kernel
theorem dX5_reconciles_1 : decode cX5_reconciles 1 = .ok (.istore_n 2, 1) := by decide +kernel
theorem dX5_reconciles_2 : decode cX5_reconciles 2 = .ok (.iload_n 2, 1) := by decide +kernel
theorem dX5_reconciles_3 : decode cX5_reconciles 3 = .ok (.aload_n 0, 1) := by decide +kernel
theorem dX5_reconciles_4 : decode cX5_reconciles 4 = .ok (.getfield 7, 3) := by decide +kernel
theorem dX5_reconciles_7 : decode cX5_reconciles 7 = .ok (.iconst 0, 1) := by decide +kernel
theorem dX5_reconciles_8 : decode cX5_reconciles 8 = .ok (.iaload, 1) := by decide +kernel
theorem dX5_reconciles_9 : decode cX5_reconciles 9 = .ok (.if_icmp .ge 62, 3) := by decide +kernel
theorem dX5_reconciles_12 : decode cX5_reconciles 12 = .ok (.iload_n 2, 1) := by decide +kernel
theorem dX5_reconciles_13 : decode cX5_reconciles 13 = .ok (.iconst 1, 1) := by decide +kernel
theorem dX5_reconciles_14 : decode cX5_reconciles 14 = .ok (.iadd, 1) := by decide +kernel
theorem dX5_reconciles_15 : decode cX5_reconciles 15 = .ok (.istore_n 3, 1) := by decide +kernel
theorem dX5_reconciles_16 : decode cX5_reconciles 16 = .ok (.iload_n 3, 1) := by decide +kernel
theorem dX5_reconciles_17 : decode cX5_reconciles 17 = .ok (.aload_n 0, 1) := by decide +kernel
theorem dX5_reconciles_18 : decode cX5_reconciles 18 = .ok (.getfield 7, 3) := by decide +kernel
theorem dX5_reconciles_21 : decode cX5_reconciles 21 = .ok (.iconst 0, 1) := by decide +kernel
theorem dX5_reconciles_22 : decode cX5_reconciles 22 = .ok (.iaload, 1) := by decide +kernel
theorem dX5_reconciles_23 : decode cX5_reconciles 23 = .ok (.if_icmp .ge 42, 3) := by decide +kernel
theorem dX5_reconciles_26 : decode cX5_reconciles 26 = .ok (.iload_n 1, 1) := by decide +kernel
theorem dX5_reconciles_27 : decode cX5_reconciles 27 = .ok (.iload_n 2, 1) := by decide +kernel
theorem dX5_reconciles_28 : decode cX5_reconciles 28 = .ok (.ishr, 1) := by decide +kernel
theorem dX5_reconciles_29 : decode cX5_reconciles 29 = .ok (.iconst 1, 1) := by decide +kernel
theorem dX5_reconciles_30 : decode cX5_reconciles 30 = .ok (.iand, 1) := by decide +kernel
theorem dX5_reconciles_31 : decode cX5_reconciles 31 = .ok (.iconst 1, 1) := by decide +kernel
theorem dX5_reconciles_32 : decode cX5_reconciles 32 = .ok (.if_icmp .ne 27, 3) := by decide +kernel
theorem dX5_reconciles_35 : decode cX5_reconciles 35 = .ok (.iload_n 1, 1) := by decide +kernel
theorem dX5_reconciles_36 : decode cX5_reconciles 36 = .ok (.iload_n 3, 1) := by decide +kernel
theorem dX5_reconciles_37 : decode cX5_reconciles 37 = .ok (.ishr, 1) := by decide +kernel
theorem dX5_reconciles_38 : decode cX5_reconciles 38 = .ok (.iconst 1, 1) := by decide +kernel
theorem dX5_reconciles_39 : decode cX5_reconciles 39 = .ok (.iand, 1) := by decide +kernel
theorem dX5_reconciles_40 : decode cX5_reconciles 40 = .ok (.iconst 1, 1) := by decide +kernel
theorem dX5_reconciles_41 : decode cX5_reconciles 41 = .ok (.if_icmp .ne 18, 3) := by decide +kernel
theorem dX5_reconciles_44 : decode cX5_reconciles 44 = .ok (.aload_n 0, 1) := by decide +kernel
theorem dX5_reconciles_45 : decode cX5_reconciles 45 = .ok (.getfield 7, 3) := by decide +kernel
theorem dX5_reconciles_48 : decode cX5_reconciles 48 = .ok (.bipush 61, 2) := by decide +kernel
theorem dX5_reconciles_50 : decode cX5_reconciles 50 = .ok (.bipush 8, 2) := by decide +kernel
theorem dX5_reconciles_52 : decode cX5_reconciles 52 = .ok (.iload_n 2, 1) := by decide +kernel
theorem dX5_reconciles_53 : decode cX5_reconciles 53 = .ok (.imul, 1) := by decide +kernel
theorem dX5_reconciles_54 : decode cX5_reconciles 54 = .ok (.iadd, 1) := by decide +kernel
theorem dX5_reconciles_55 : decode cX5_reconciles 55 = .ok (.iload_n 3, 1) := by decide +kernel
theorem dX5_reconciles_56 : decode cX5_reconciles 56 = .ok (.iadd, 1) := by decide +kernel
theorem dX5_reconciles_57 : decode cX5_reconciles 57 = .ok (.iconst 0, 1) := by decide +kernel
theorem dX5_reconciles_58 : decode cX5_reconciles 58 = .ok (.iastore, 1) := by decide +kernel
theorem dX5_reconciles_59 : decode cX5_reconciles 59 = .ok (.iinc 3 1, 3) := by decide +kernel
theorem dX5_reconciles_62 : decode cX5_reconciles 62 = .ok (.goto (-46), 3) := by decide +kernel
theorem dX5_reconciles_65 : decode cX5_reconciles 65 = .ok (.iinc 2 1, 3) := by decide +kernel
theorem dX5_reconciles_68 : decode cX5_reconciles 68 = .ok (.goto (-66), 3) := by decide +kernel
theorem dX5_reconciles_71 : decode cX5_reconciles 71 = .ok (.return_, 1) := by decide +kernel
theorem dX5_reconcile_0 : decode cX5_reconcile 0 = .ok (.iload_n 1, 1) := by decide +kernel
theorem dX5_reconcile_1 : decode cX5_reconcile 1 = .ok (.i2l, 1) := by decide +kernel
theorem dX5_reconcile_2 : decode cX5_reconcile 2 = .ok (.lconst 0, 1) := by decide +kernel
theorem dX5_reconcile_3 : decode cX5_reconcile 3 = .ok (.ldc2_w 113, 3) := by decide +kernel
theorem dX5_reconcile_6 : decode cX5_reconcile 6 = .ok (.invokestatic 42, 3) := by decide +kernel
theorem dX5_reconcile_9 : decode cX5_reconcile 9 = .ok (.ifCond .ne 9, 3) := by decide +kernel
theorem dX5_reconcile_12 : decode cX5_reconcile 12 = .ok (.aload_n 0, 1) := by decide +kernel
theorem dX5_reconcile_13 : decode cX5_reconcile 13 = .ok (.iconst 0, 1) := by decide +kernel
theorem dX5_reconcile_14 : decode cX5_reconcile 14 = .ok (.invokevirtual 118, 3) := by decide +kernel
theorem dX5_reconcile_17 : decode cX5_reconcile 17 = .ok (.ireturn, 1) := by decide +kernel
theorem dX5_reconcile_18 : decode cX5_reconcile 18 = .ok (.aload_n 0, 1) := by decide +kernel
theorem dX5_reconcile_19 : decode cX5_reconcile 19 = .ok (.getfield 7, 3) := by decide +kernel
theorem dX5_reconcile_22 : decode cX5_reconcile 22 = .ok (.aload_n 0, 1) := by decide +kernel
theorem dX5_reconcile_23 : decode cX5_reconcile 23 = .ok (.getfield 16, 3) := by decide +kernel
theorem dX5_reconcile_26 : decode cX5_reconcile 26 = .ok (.invokestatic 153, 3) := by decide +kernel
theorem dX5_reconcile_29 : decode cX5_reconcile 29 = .ok (.iconst (-1), 1) := by decide +kernel
theorem dX5_reconcile_30 : decode cX5_reconcile 30 = .ok (.istore_n 2, 1) := by decide +kernel
theorem dX5_reconcile_31 : decode cX5_reconcile 31 = .ok (.iconst 0, 1) := by decide +kernel
theorem dX5_reconcile_32 : decode cX5_reconcile 32 = .ok (.istore_n 3, 1) := by decide +kernel
theorem dX5_reconcile_33 : decode cX5_reconcile 33 = .ok (.iload_n 3, 1) := by decide +kernel
theorem dX5_reconcile_34 : decode cX5_reconcile 34 = .ok (.iconst 1, 1) := by decide +kernel
theorem dX5_reconcile_35 : decode cX5_reconcile 35 = .ok (.aload_n 0, 1) := by decide +kernel
theorem dX5_reconcile_36 : decode cX5_reconcile 36 = .ok (.getfield 7, 3) := by decide +kernel
theorem dX5_reconcile_39 : decode cX5_reconcile 39 = .ok (.iconst 0, 1) := by decide +kernel
theorem dX5_reconcile_40 : decode cX5_reconcile 40 = .ok (.iaload, 1) := by decide +kernel
theorem dX5_reconcile_41 : decode cX5_reconcile 41 = .ok (.ishl, 1) := by decide +kernel
theorem dX5_reconcile_42 : decode cX5_reconcile 42 = .ok (.if_icmp .ge 53, 3) := by decide +kernel
theorem dX5_reconcile_45 : decode cX5_reconcile 45 = .ok (.iload_n 2, 1) := by decide +kernel
theorem dX5_reconcile_46 : decode cX5_reconcile 46 = .ok (.ifCond .lt 17, 3) := by decide +kernel
theorem dX5_reconcile_49 : decode cX5_reconcile 49 = .ok (.iload_n 3, 1) := by decide +kernel
theorem dX5_reconcile_50 : decode cX5_reconcile 50 = .ok (.invokestatic 173, 3) := by decide +kernel
theorem dX5_reconcile_53 : decode cX5_reconcile 53 = .ok (.iload_n 2, 1) := by decide +kernel
theorem dX5_reconcile_54 : decode cX5_reconcile 54 = .ok (.invokestatic 173, 3) := by decide +kernel
theorem dX5_reconcile_57 : decode cX5_reconcile 57 = .ok (.if_icmp .lt 6, 3) := by decide +kernel
theorem dX5_reconcile_60 : decode cX5_reconcile 60 = .ok (.goto 29, 3) := by decide +kernel
theorem dX5_reconcile_63 : decode cX5_reconcile 63 = .ok (.aload_n 0, 1) := by decide +kernel
theorem dX5_reconcile_64 : decode cX5_reconcile 64 = .ok (.iload_n 3, 1) := by decide +kernel
theorem dX5_reconcile_65 : decode cX5_reconcile 65 = .ok (.invokevirtual 176, 3) := by decide +kernel
theorem dX5_reconcile_68 : decode cX5_reconcile 68 = .ok (.aload_n 0, 1) := by decide +kernel
theorem dX5_reconcile_69 : decode cX5_reconcile 69 = .ok (.iload_n 1, 1) := by decide +kernel
theorem dX5_reconcile_70 : decode cX5_reconcile 70 = .ok (.iconst 5, 1) := by decide +kernel
theorem dX5_reconcile_71 : decode cX5_reconcile 71 = .ok (.invokevirtual 159, 3) := by decide +kernel
theorem dX5_reconcile_74 : decode cX5_reconcile 74 = .ok (.aload_n 0, 1) := by decide +kernel
theorem dX5_reconcile_75 : decode cX5_reconcile 75 = .ok (.getfield 7, 3) := by decide +kernel
theorem dX5_reconcile_78 : decode cX5_reconcile 78 = .ok (.iconst 5, 1) := by decide +kernel
theorem dX5_reconcile_79 : decode cX5_reconcile 79 = .ok (.iaload, 1) := by decide +kernel
theorem dX5_reconcile_80 : decode cX5_reconcile 80 = .ok (.if_icmp .ne 7, 3) := by decide +kernel
theorem dX5_reconcile_83 : decode cX5_reconcile 83 = .ok (.iload_n 3, 1) := by decide +kernel
theorem dX5_reconcile_84 : decode cX5_reconcile 84 = .ok (.goto 4, 3) := by decide +kernel
theorem dX5_reconcile_87 : decode cX5_reconcile 87 = .ok (.iload_n 2, 1) := by decide +kernel
theorem dX5_reconcile_88 : decode cX5_reconcile 88 = .ok (.istore_n 2, 1) := by decide +kernel
theorem dX5_reconcile_89 : decode cX5_reconcile 89 = .ok (.iinc 3 1, 3) := by decide +kernel
theorem dX5_reconcile_92 : decode cX5_reconcile 92 = .ok (.goto (-59), 3) := by decide +kernel
theorem dX5_reconcile_95 : decode cX5_reconcile 95 = .ok (.iload_n 2, 1) := by decide +kernel
theorem dX5_reconcile_96 : decode cX5_reconcile 96 = .ok (.ifCond .ge 11, 3) := by decide +kernel
theorem dX5_reconcile_99 : decode cX5_reconcile 99 = .ok (.aload_n 0, 1) := by decide +kernel
theorem dX5_reconcile_100 : decode cX5_reconcile 100 = .ok (.iconst 3, 1) := by decide +kernel
theorem dX5_reconcile_101 : decode cX5_reconcile 101 = .ok (.invokevirtual 118, 3) := by decide +kernel
theorem dX5_reconcile_104 : decode cX5_reconcile 104 = .ok (.goto 4, 3) := by decide +kernel
theorem dX5_reconcile_107 : decode cX5_reconcile 107 = .ok (.iload_n 2, 1) := by decide +kernel
theorem dX5_reconcile_108 : decode cX5_reconcile 108 = .ok (.ireturn, 1) := by decide +kernel
theorem dX5_fitting_0 : decode cX5_fitting 0 = .ok (.aload_n 0, 1) := by decide +kernel
theorem dX5_fitting_1 : decode cX5_fitting 1 = .ok (.getfield 7, 3) := by decide +kernel
theorem dX5_fitting_4 : decode cX5_fitting 4 = .ok (.aload_n 0, 1) := by decide +kernel
theorem dX5_fitting_5 : decode cX5_fitting 5 = .ok (.getfield 16, 3) := by decide +kernel
theorem dX5_fitting_8 : decode cX5_fitting 8 = .ok (.invokestatic 153, 3) := by decide +kernel
theorem dX5_fitting_11 : decode cX5_fitting 11 = .ok (.iconst 0, 1) := by decide +kernel
theorem dX5_fitting_12 : decode cX5_fitting 12 = .ok (.istore 6, 2) := by decide +kernel
theorem dX5_fitting_14 : decode cX5_fitting 14 = .ok (.iconst 0, 1) := by decide +kernel
theorem dX5_fitting_15 : decode cX5_fitting 15 = .ok (.istore 7, 2) := by decide +kernel
theorem dX5_fitting_17 : decode cX5_fitting 17 = .ok (.iconst 0, 1) := by decide +kernel
theorem dX5_fitting_18 : decode cX5_fitting 18 = .ok (.istore 8, 2) := by decide +kernel
theorem dX5_fitting_20 : decode cX5_fitting 20 = .ok (.iload 8, 2) := by decide +kernel
theorem dX5_fitting_22 : decode cX5_fitting 22 = .ok (.iload_n 3, 1) := by decide +kernel
theorem dX5_fitting_23 : decode cX5_fitting 23 = .ok (.if_icmp .gt 137, 3) := by decide +kernel
theorem dX5_fitting_26 : decode cX5_fitting 26 = .ok (.aload_n 0, 1) := by decide +kernel
theorem dX5_fitting_27 : decode cX5_fitting 27 = .ok (.getfield 7, 3) := by decide +kernel
theorem dX5_fitting_30 : decode cX5_fitting 30 = .ok (.iload_n 2, 1) := by decide +kernel
theorem dX5_fitting_31 : decode cX5_fitting 31 = .ok (.iload 8, 2) := by decide +kernel
theorem dX5_fitting_33 : decode cX5_fitting 33 = .ok (.iastore, 1) := by decide +kernel
theorem dX5_fitting_34 : decode cX5_fitting 34 = .ok (.iconst 1, 1) := by decide +kernel
theorem dX5_fitting_35 : decode cX5_fitting 35 = .ok (.istore 9, 2) := by decide +kernel
theorem dX5_fitting_37 : decode cX5_fitting 37 = .ok (.iconst 0, 1) := by decide +kernel
theorem dX5_fitting_38 : decode cX5_fitting 38 = .ok (.istore 10, 2) := by decide +kernel
theorem dX5_fitting_40 : decode cX5_fitting 40 = .ok (.iload 10, 2) := by decide +kernel
theorem dX5_fitting_42 : decode cX5_fitting 42 = .ok (.aload_n 0, 1) := by decide +kernel
theorem dX5_fitting_43 : decode cX5_fitting 43 = .ok (.getfield 32, 3) := by decide +kernel
theorem dX5_fitting_46 : decode cX5_fitting 46 = .ok (.iload_n 1, 1) := by decide +kernel
theorem dX5_fitting_47 : decode cX5_fitting 47 = .ok (.iaload, 1) := by decide +kernel
theorem dX5_fitting_48 : decode cX5_fitting 48 = .ok (.if_icmp .ge 57, 3) := by decide +kernel
theorem dX5_fitting_51 : decode cX5_fitting 51 = .ok (.iload 9, 2) := by decide +kernel
theorem dX5_fitting_53 : decode cX5_fitting 53 = .ok (.ifCond .eq 52, 3) := by decide +kernel
theorem dX5_fitting_56 : decode cX5_fitting 56 = .ok (.aload_n 0, 1) := by decide +kernel
theorem dX5_fitting_57 : decode cX5_fitting 57 = .ok (.getfield 35, 3) := by decide +kernel
theorem dX5_fitting_60 : decode cX5_fitting 60 = .ok (.bipush 40, 2) := by decide +kernel
theorem dX5_fitting_62 : decode cX5_fitting 62 = .ok (.iload_n 1, 1) := by decide +kernel
theorem dX5_fitting_63 : decode cX5_fitting 63 = .ok (.imul, 1) := by decide +kernel
theorem dX5_fitting_64 : decode cX5_fitting 64 = .ok (.iload 10, 2) := by decide +kernel
theorem dX5_fitting_66 : decode cX5_fitting 66 = .ok (.iadd, 1) := by decide +kernel
theorem dX5_fitting_67 : decode cX5_fitting 67 = .ok (.iaload, 1) := by decide +kernel
theorem dX5_fitting_68 : decode cX5_fitting 68 = .ok (.istore 11, 2) := by decide +kernel
theorem dX5_fitting_70 : decode cX5_fitting 70 = .ok (.iload 11, 2) := by decide +kernel
theorem dX5_fitting_72 : decode cX5_fitting 72 = .ok (.iconst (-1), 1) := by decide +kernel
theorem dX5_fitting_73 : decode cX5_fitting 73 = .ok (.if_icmp .eq 15, 3) := by decide +kernel
theorem dX5_fitting_76 : decode cX5_fitting 76 = .ok (.iload 11, 2) := by decide +kernel
theorem dX5_fitting_78 : decode cX5_fitting 78 = .ok (.aload_n 0, 1) := by decide +kernel
theorem dX5_fitting_79 : decode cX5_fitting 79 = .ok (.getfield 7, 3) := by decide +kernel
theorem dX5_fitting_82 : decode cX5_fitting 82 = .ok (.iload 4, 2) := by decide +kernel
theorem dX5_fitting_84 : decode cX5_fitting 84 = .ok (.iaload, 1) := by decide +kernel
theorem dX5_fitting_85 : decode cX5_fitting 85 = .ok (.if_icmp .ne 7, 3) := by decide +kernel
theorem dX5_fitting_88 : decode cX5_fitting 88 = .ok (.iconst 1, 1) := by decide +kernel
theorem dX5_fitting_89 : decode cX5_fitting 89 = .ok (.goto 4, 3) := by decide +kernel
theorem dX5_fitting_92 : decode cX5_fitting 92 = .ok (.iconst 0, 1) := by decide +kernel
theorem dX5_fitting_93 : decode cX5_fitting 93 = .ok (.istore 9, 2) := by decide +kernel
theorem dX5_fitting_95 : decode cX5_fitting 95 = .ok (.aload_n 0, 1) := by decide +kernel
theorem dX5_fitting_96 : decode cX5_fitting 96 = .ok (.invokevirtual 110, 3) := by decide +kernel
theorem dX5_fitting_99 : decode cX5_fitting 99 = .ok (.iinc 10 1, 3) := by decide +kernel
theorem dX5_fitting_102 : decode cX5_fitting 102 = .ok (.goto (-62), 3) := by decide +kernel
theorem dX5_fitting_105 : decode cX5_fitting 105 = .ok (.aload_n 0, 1) := by decide +kernel
theorem dX5_fitting_106 : decode cX5_fitting 106 = .ok (.getfield 16, 3) := by decide +kernel
theorem dX5_fitting_109 : decode cX5_fitting 109 = .ok (.aload_n 0, 1) := by decide +kernel
theorem dX5_fitting_110 : decode cX5_fitting 110 = .ok (.getfield 7, 3) := by decide +kernel
theorem dX5_fitting_113 : decode cX5_fitting 113 = .ok (.invokestatic 153, 3) := by decide +kernel
theorem dX5_fitting_116 : decode cX5_fitting 116 = .ok (.iload 6, 2) := by decide +kernel
theorem dX5_fitting_118 : decode cX5_fitting 118 = .ok (.iload 9, 2) := by decide +kernel
theorem dX5_fitting_120 : decode cX5_fitting 120 = .ok (.ifCond .eq 15, 3) := by decide +kernel
theorem dX5_fitting_123 : decode cX5_fitting 123 = .ok (.iload 5, 2) := by decide +kernel
theorem dX5_fitting_125 : decode cX5_fitting 125 = .ok (.ifCond .eq 10, 3) := by decide +kernel
theorem dX5_fitting_128 : decode cX5_fitting 128 = .ok (.iconst 1, 1) := by decide +kernel
theorem dX5_fitting_129 : decode cX5_fitting 129 = .ok (.iload 8, 2) := by decide +kernel
theorem dX5_fitting_131 : decode cX5_fitting 131 = .ok (.ishl, 1) := by decide +kernel
theorem dX5_fitting_132 : decode cX5_fitting 132 = .ok (.goto 4, 3) := by decide +kernel
theorem dX5_fitting_135 : decode cX5_fitting 135 = .ok (.iconst 0, 1) := by decide +kernel
theorem dX5_fitting_136 : decode cX5_fitting 136 = .ok (.ior, 1) := by decide +kernel
theorem dX5_fitting_137 : decode cX5_fitting 137 = .ok (.istore 6, 2) := by decide +kernel
theorem dX5_fitting_139 : decode cX5_fitting 139 = .ok (.iload 7, 2) := by decide +kernel
theorem dX5_fitting_141 : decode cX5_fitting 141 = .ok (.iload 9, 2) := by decide +kernel
theorem dX5_fitting_143 : decode cX5_fitting 143 = .ok (.ifCond .eq 7, 3) := by decide +kernel
theorem dX5_fitting_146 : decode cX5_fitting 146 = .ok (.iconst 1, 1) := by decide +kernel
theorem dX5_fitting_147 : decode cX5_fitting 147 = .ok (.goto 4, 3) := by decide +kernel
theorem dX5_fitting_150 : decode cX5_fitting 150 = .ok (.iconst 0, 1) := by decide +kernel
theorem dX5_fitting_151 : decode cX5_fitting 151 = .ok (.iadd, 1) := by decide +kernel
theorem dX5_fitting_152 : decode cX5_fitting 152 = .ok (.istore 7, 2) := by decide +kernel
theorem dX5_fitting_154 : decode cX5_fitting 154 = .ok (.iinc 8 1, 3) := by decide +kernel
theorem dX5_fitting_157 : decode cX5_fitting 157 = .ok (.goto (-137), 3) := by decide +kernel
theorem dX5_fitting_160 : decode cX5_fitting 160 = .ok (.iload 5, 2) := by decide +kernel
theorem dX5_fitting_162 : decode cX5_fitting 162 = .ok (.ifCond .eq 8, 3) := by decide +kernel
theorem dX5_fitting_165 : decode cX5_fitting 165 = .ok (.iload 6, 2) := by decide +kernel
theorem dX5_fitting_167 : decode cX5_fitting 167 = .ok (.goto 5, 3) := by decide +kernel
theorem dX5_fitting_170 : decode cX5_fitting 170 = .ok (.iload 7, 2) := by decide +kernel
theorem dX5_fitting_172 : decode cX5_fitting 172 = .ok (.ireturn, 1) := by decide +kernel
theorem dX5_fits_0 : decode cX5_fits 0 = .ok (.aload_n 0, 1) := by decide +kernel
theorem dX5_fits_1 : decode cX5_fits 1 = .ok (.iload_n 1, 1) := by decide +kernel
theorem dX5_fits_2 : decode cX5_fits 2 = .ok (.invokevirtual 179, 3) := by decide +kernel
theorem dX5_fits_5 : decode cX5_fits 5 = .ok (.istore 4, 2) := by decide +kernel
theorem dX5_fits_7 : decode cX5_fits 7 = .ok (.iload 4, 2) := by decide +kernel
theorem dX5_fits_9 : decode cX5_fits 9 = .ok (.ifCond .lt 10, 3) := by decide +kernel
theorem dX5_fits_12 : decode cX5_fits 12 = .ok (.aload_n 0, 1) := by decide +kernel
theorem dX5_fits_13 : decode cX5_fits 13 = .ok (.iload 4, 2) := by decide +kernel
theorem dX5_fits_15 : decode cX5_fits 15 = .ok (.invokevirtual 118, 3) := by decide +kernel
theorem dX5_fits_18 : decode cX5_fits 18 = .ok (.ireturn, 1) := by decide +kernel
theorem dX5_fits_19 : decode cX5_fits 19 = .ok (.aload_n 0, 1) := by decide +kernel
theorem dX5_fits_20 : decode cX5_fits 20 = .ok (.iload_n 2, 1) := by decide +kernel
theorem dX5_fits_21 : decode cX5_fits 21 = .ok (.iload_n 3, 1) := by decide +kernel
theorem dX5_fits_22 : decode cX5_fits 22 = .ok (.invokevirtual 103, 3) := by decide +kernel
theorem dX5_fits_25 : decode cX5_fits 25 = .ok (.ifCond .eq 24, 3) := by decide +kernel
theorem dX5_fits_28 : decode cX5_fits 28 = .ok (.aload_n 0, 1) := by decide +kernel
theorem dX5_fits_29 : decode cX5_fits 29 = .ok (.iload_n 1, 1) := by decide +kernel
theorem dX5_fits_30 : decode cX5_fits 30 = .ok (.iload_n 2, 1) := by decide +kernel
theorem dX5_fits_31 : decode cX5_fits 31 = .ok (.iload_n 3, 1) := by decide +kernel
theorem dX5_fits_32 : decode cX5_fits 32 = .ok (.invokestatic 58, 3) := by decide +kernel
theorem dX5_fits_35 : decode cX5_fits 35 = .ok (.bipush 99, 2) := by decide +kernel
theorem dX5_fits_37 : decode cX5_fits 37 = .ok (.iload_n 2, 1) := by decide +kernel
theorem dX5_fits_38 : decode cX5_fits 38 = .ok (.iload_n 3, 1) := by decide +kernel
theorem dX5_fits_39 : decode cX5_fits 39 = .ok (.invokestatic 58, 3) := by decide +kernel
theorem dX5_fits_42 : decode cX5_fits 42 = .ok (.iconst 0, 1) := by decide +kernel
theorem dX5_fits_43 : decode cX5_fits 43 = .ok (.invokevirtual 182, 3) := by decide +kernel
theorem dX5_fits_46 : decode cX5_fits 46 = .ok (.goto 8, 3) := by decide +kernel
theorem dX5_fits_49 : decode cX5_fits 49 = .ok (.aload_n 0, 1) := by decide +kernel
theorem dX5_fits_50 : decode cX5_fits 50 = .ok (.iconst 0, 1) := by decide +kernel
theorem dX5_fits_51 : decode cX5_fits 51 = .ok (.invokevirtual 118, 3) := by decide +kernel
theorem dX5_fits_54 : decode cX5_fits 54 = .ok (.ireturn, 1) := by decide +kernel
theorem dX5_kinds_0 : decode cX5_kinds 0 = .ok (.aload_n 0, 1) := by decide +kernel
theorem dX5_kinds_1 : decode cX5_kinds 1 = .ok (.iload_n 1, 1) := by decide +kernel
theorem dX5_kinds_2 : decode cX5_kinds 2 = .ok (.invokevirtual 179, 3) := by decide +kernel
theorem dX5_kinds_5 : decode cX5_kinds 5 = .ok (.istore_n 3, 1) := by decide +kernel
theorem dX5_kinds_6 : decode cX5_kinds 6 = .ok (.iload_n 3, 1) := by decide +kernel
theorem dX5_kinds_7 : decode cX5_kinds 7 = .ok (.ifCond .lt 9, 3) := by decide +kernel
theorem dX5_kinds_10 : decode cX5_kinds 10 = .ok (.aload_n 0, 1) := by decide +kernel
theorem dX5_kinds_11 : decode cX5_kinds 11 = .ok (.iload_n 3, 1) := by decide +kernel
theorem dX5_kinds_12 : decode cX5_kinds 12 = .ok (.invokevirtual 118, 3) := by decide +kernel
theorem dX5_kinds_15 : decode cX5_kinds 15 = .ok (.ireturn, 1) := by decide +kernel
theorem dX5_kinds_16 : decode cX5_kinds 16 = .ok (.aload_n 0, 1) := by decide +kernel
theorem dX5_kinds_17 : decode cX5_kinds 17 = .ok (.iload_n 2, 1) := by decide +kernel
theorem dX5_kinds_18 : decode cX5_kinds 18 = .ok (.invokevirtual 46, 3) := by decide +kernel
theorem dX5_kinds_21 : decode cX5_kinds 21 = .ok (.ifCond .eq 22, 3) := by decide +kernel
theorem dX5_kinds_24 : decode cX5_kinds 24 = .ok (.aload_n 0, 1) := by decide +kernel
theorem dX5_kinds_25 : decode cX5_kinds 25 = .ok (.iload_n 1, 1) := by decide +kernel
theorem dX5_kinds_26 : decode cX5_kinds 26 = .ok (.bipush 13, 2) := by decide +kernel
theorem dX5_kinds_28 : decode cX5_kinds 28 = .ok (.iload_n 2, 1) := by decide +kernel
theorem dX5_kinds_29 : decode cX5_kinds 29 = .ok (.iadd, 1) := by decide +kernel
theorem dX5_kinds_30 : decode cX5_kinds 30 = .ok (.bipush 6, 2) := by decide +kernel
theorem dX5_kinds_32 : decode cX5_kinds 32 = .ok (.bipush 21, 2) := by decide +kernel
theorem dX5_kinds_34 : decode cX5_kinds 34 = .ok (.iload_n 2, 1) := by decide +kernel
theorem dX5_kinds_35 : decode cX5_kinds 35 = .ok (.iadd, 1) := by decide +kernel
theorem dX5_kinds_36 : decode cX5_kinds 36 = .ok (.iconst 1, 1) := by decide +kernel
theorem dX5_kinds_37 : decode cX5_kinds 37 = .ok (.invokevirtual 182, 3) := by decide +kernel
theorem dX5_kinds_40 : decode cX5_kinds 40 = .ok (.goto 8, 3) := by decide +kernel
theorem dX5_kinds_43 : decode cX5_kinds 43 = .ok (.aload_n 0, 1) := by decide +kernel
theorem dX5_kinds_44 : decode cX5_kinds 44 = .ok (.iconst 0, 1) := by decide +kernel
theorem dX5_kinds_45 : decode cX5_kinds 45 = .ok (.invokevirtual 118, 3) := by decide +kernel
theorem dX5_kinds_48 : decode cX5_kinds 48 = .ok (.ireturn, 1) := by decide +kernel
theorem dX5_draw_0 : decode cX5_draw 0 = .ok (.aload_n 0, 1) := by decide +kernel
theorem dX5_draw_1 : decode cX5_draw 1 = .ok (.getfield 7, 3) := by decide +kernel
theorem dX5_draw_4 : decode cX5_draw 4 = .ok (.iconst 2, 1) := by decide +kernel
theorem dX5_draw_5 : decode cX5_draw 5 = .ok (.aload_n 0, 1) := by decide +kernel
theorem dX5_draw_6 : decode cX5_draw 6 = .ok (.getfield 7, 3) := by decide +kernel
theorem dX5_draw_9 : decode cX5_draw 9 = .ok (.iconst 2, 1) := by decide +kernel
theorem dX5_draw_10 : decode cX5_draw 10 = .ok (.iaload, 1) := by decide +kernel
theorem dX5_draw_11 : decode cX5_draw 11 = .ok (.ldc 186, 2) := by decide +kernel
theorem dX5_draw_13 : decode cX5_draw 13 = .ok (.imul, 1) := by decide +kernel
theorem dX5_draw_14 : decode cX5_draw 14 = .ok (.sipush 12345, 3) := by decide +kernel
theorem dX5_draw_17 : decode cX5_draw 17 = .ok (.iadd, 1) := by decide +kernel
theorem dX5_draw_18 : decode cX5_draw 18 = .ok (.iastore, 1) := by decide +kernel
theorem dX5_draw_19 : decode cX5_draw 19 = .ok (.aload_n 0, 1) := by decide +kernel
theorem dX5_draw_20 : decode cX5_draw 20 = .ok (.getfield 7, 3) := by decide +kernel
theorem dX5_draw_23 : decode cX5_draw 23 = .ok (.iconst 2, 1) := by decide +kernel
theorem dX5_draw_24 : decode cX5_draw 24 = .ok (.iaload, 1) := by decide +kernel
theorem dX5_draw_25 : decode cX5_draw 25 = .ok (.bipush 8, 2) := by decide +kernel
theorem dX5_draw_27 : decode cX5_draw 27 = .ok (.iushr, 1) := by decide +kernel
theorem dX5_draw_28 : decode cX5_draw 28 = .ok (.ireturn, 1) := by decide +kernel
theorem dX5_market_0 : decode cX5_market 0 = .ok (.iload_n 1, 1) := by decide +kernel
theorem dX5_market_1 : decode cX5_market 1 = .ok (.i2l, 1) := by decide +kernel
theorem dX5_market_2 : decode cX5_market 2 = .ok (.lconst 1, 1) := by decide +kernel
theorem dX5_market_3 : decode cX5_market 3 = .ok (.ldc2_w 113, 3) := by decide +kernel
theorem dX5_market_6 : decode cX5_market 6 = .ok (.invokestatic 42, 3) := by decide +kernel
theorem dX5_market_9 : decode cX5_market 9 = .ok (.ifCond .ne 9, 3) := by decide +kernel
theorem dX5_market_12 : decode cX5_market 12 = .ok (.aload_n 0, 1) := by decide +kernel
theorem dX5_market_13 : decode cX5_market 13 = .ok (.iconst 0, 1) := by decide +kernel
theorem dX5_market_14 : decode cX5_market 14 = .ok (.invokevirtual 118, 3) := by decide +kernel
theorem dX5_market_17 : decode cX5_market 17 = .ok (.ireturn, 1) := by decide +kernel
theorem dX5_market_18 : decode cX5_market 18 = .ok (.aload_n 0, 1) := by decide +kernel
theorem dX5_market_19 : decode cX5_market 19 = .ok (.getfield 7, 3) := by decide +kernel
theorem dX5_market_22 : decode cX5_market 22 = .ok (.iconst 1, 1) := by decide +kernel
theorem dX5_market_23 : decode cX5_market 23 = .ok (.iaload, 1) := by decide +kernel
theorem dX5_market_24 : decode cX5_market 24 = .ok (.iload_n 1, 1) := by decide +kernel
theorem dX5_market_25 : decode cX5_market 25 = .ok (.iadd, 1) := by decide +kernel
theorem dX5_market_26 : decode cX5_market 26 = .ok (.ldc 98, 2) := by decide +kernel
theorem dX5_market_28 : decode cX5_market 28 = .ok (.if_icmp .le 9, 3) := by decide +kernel
theorem dX5_market_31 : decode cX5_market 31 = .ok (.aload_n 0, 1) := by decide +kernel
theorem dX5_market_32 : decode cX5_market 32 = .ok (.iconst 4, 1) := by decide +kernel
theorem dX5_market_33 : decode cX5_market 33 = .ok (.invokevirtual 118, 3) := by decide +kernel
theorem dX5_market_36 : decode cX5_market 36 = .ok (.ireturn, 1) := by decide +kernel
theorem dX5_market_37 : decode cX5_market 37 = .ok (.iconst 0, 1) := by decide +kernel
theorem dX5_market_38 : decode cX5_market 38 = .ok (.istore_n 2, 1) := by decide +kernel
theorem dX5_market_39 : decode cX5_market 39 = .ok (.iload_n 2, 1) := by decide +kernel
theorem dX5_market_40 : decode cX5_market 40 = .ok (.iload_n 1, 1) := by decide +kernel
theorem dX5_market_41 : decode cX5_market 41 = .ok (.if_icmp .ge 69, 3) := by decide +kernel
theorem dX5_market_44 : decode cX5_market 44 = .ok (.aload_n 0, 1) := by decide +kernel
theorem dX5_market_45 : decode cX5_market 45 = .ok (.invokevirtual 187, 3) := by decide +kernel
theorem dX5_market_48 : decode cX5_market 48 = .ok (.bipush 8, 2) := by decide +kernel
theorem dX5_market_50 : decode cX5_market 50 = .ok (.irem, 1) := by decide +kernel
theorem dX5_market_51 : decode cX5_market 51 = .ok (.istore_n 3, 1) := by decide +kernel
theorem dX5_market_52 : decode cX5_market 52 = .ok (.aload_n 0, 1) := by decide +kernel
theorem dX5_market_53 : decode cX5_market 53 = .ok (.invokevirtual 187, 3) := by decide +kernel
theorem dX5_market_56 : decode cX5_market 56 = .ok (.bipush 8, 2) := by decide +kernel
theorem dX5_market_58 : decode cX5_market 58 = .ok (.irem, 1) := by decide +kernel
theorem dX5_market_59 : decode cX5_market 59 = .ok (.istore 4, 2) := by decide +kernel
theorem dX5_market_61 : decode cX5_market 61 = .ok (.aload_n 0, 1) := by decide +kernel
theorem dX5_market_62 : decode cX5_market 62 = .ok (.getfield 7, 3) := by decide +kernel
theorem dX5_market_65 : decode cX5_market 65 = .ok (.bipush 7, 2) := by decide +kernel
theorem dX5_market_67 : decode cX5_market 67 = .ok (.aload_n 0, 1) := by decide +kernel
theorem dX5_market_68 : decode cX5_market 68 = .ok (.getfield 7, 3) := by decide +kernel
theorem dX5_market_71 : decode cX5_market 71 = .ok (.iconst 1, 1) := by decide +kernel
theorem dX5_market_72 : decode cX5_market 72 = .ok (.iaload, 1) := by decide +kernel
theorem dX5_market_73 : decode cX5_market 73 = .ok (.bipush 6, 2) := by decide +kernel
theorem dX5_market_75 : decode cX5_market 75 = .ok (.irem, 1) := by decide +kernel
theorem dX5_market_76 : decode cX5_market 76 = .ok (.iadd, 1) := by decide +kernel
theorem dX5_market_77 : decode cX5_market 77 = .ok (.bipush 10, 2) := by decide +kernel
theorem dX5_market_79 : decode cX5_market 79 = .ok (.iload_n 3, 1) := by decide +kernel
theorem dX5_market_80 : decode cX5_market 80 = .ok (.imul, 1) := by decide +kernel
theorem dX5_market_81 : decode cX5_market 81 = .ok (.iload 4, 2) := by decide +kernel
theorem dX5_market_83 : decode cX5_market 83 = .ok (.iadd, 1) := by decide +kernel
theorem dX5_market_84 : decode cX5_market 84 = .ok (.iastore, 1) := by decide +kernel
theorem dX5_market_85 : decode cX5_market 85 = .ok (.aload_n 0, 1) := by decide +kernel
theorem dX5_market_86 : decode cX5_market 86 = .ok (.getfield 7, 3) := by decide +kernel
theorem dX5_market_89 : decode cX5_market 89 = .ok (.iconst 3, 1) := by decide +kernel
theorem dX5_market_90 : decode cX5_market 90 = .ok (.iconst 1, 1) := by decide +kernel
theorem dX5_market_91 : decode cX5_market 91 = .ok (.aload_n 0, 1) := by decide +kernel
theorem dX5_market_92 : decode cX5_market 92 = .ok (.invokevirtual 187, 3) := by decide +kernel
theorem dX5_market_95 : decode cX5_market 95 = .ok (.bipush 20, 2) := by decide +kernel
theorem dX5_market_97 : decode cX5_market 97 = .ok (.irem, 1) := by decide +kernel
theorem dX5_market_98 : decode cX5_market 98 = .ok (.iadd, 1) := by decide +kernel
theorem dX5_market_99 : decode cX5_market 99 = .ok (.iastore, 1) := by decide +kernel
theorem dX5_market_100 : decode cX5_market 100 = .ok (.aload_n 0, 1) := by decide +kernel
theorem dX5_market_101 : decode cX5_market 101 = .ok (.invokevirtual 110, 3) := by decide +kernel
theorem dX5_market_104 : decode cX5_market 104 = .ok (.iinc 2 1, 3) := by decide +kernel
theorem dX5_market_107 : decode cX5_market 107 = .ok (.goto (-68), 3) := by decide +kernel
theorem dX5_market_110 : decode cX5_market 110 = .ok (.aload_n 0, 1) := by decide +kernel
theorem dX5_market_111 : decode cX5_market 111 = .ok (.getfield 7, 3) := by decide +kernel
theorem dX5_market_114 : decode cX5_market 114 = .ok (.iconst 4, 1) := by decide +kernel
theorem dX5_market_115 : decode cX5_market 115 = .ok (.iaload, 1) := by decide +kernel
theorem dX5_market_116 : decode cX5_market 116 = .ok (.ireturn, 1) := by decide +kernel
theorem dX5_common_0 : decode cX5_common 0 = .ok (.iload_n 0, 1) := by decide +kernel
theorem dX5_common_1 : decode cX5_common 1 = .ok (.istore_n 2, 1) := by decide +kernel
theorem dX5_common_2 : decode cX5_common 2 = .ok (.iload_n 1, 1) := by decide +kernel
theorem dX5_common_3 : decode cX5_common 3 = .ok (.istore_n 3, 1) := by decide +kernel
theorem dX5_common_4 : decode cX5_common 4 = .ok (.iload_n 3, 1) := by decide +kernel
theorem dX5_common_5 : decode cX5_common 5 = .ok (.ifCond .eq 16, 3) := by decide +kernel
theorem dX5_common_8 : decode cX5_common 8 = .ok (.iload_n 2, 1) := by decide +kernel
theorem dX5_common_9 : decode cX5_common 9 = .ok (.iload_n 3, 1) := by decide +kernel
theorem dX5_common_10 : decode cX5_common 10 = .ok (.irem, 1) := by decide +kernel
theorem dX5_common_11 : decode cX5_common 11 = .ok (.istore 4, 2) := by decide +kernel
theorem dX5_common_13 : decode cX5_common 13 = .ok (.iload_n 3, 1) := by decide +kernel
theorem dX5_common_14 : decode cX5_common 14 = .ok (.istore_n 2, 1) := by decide +kernel
theorem dX5_common_15 : decode cX5_common 15 = .ok (.iload 4, 2) := by decide +kernel
theorem dX5_common_17 : decode cX5_common 17 = .ok (.istore_n 3, 1) := by decide +kernel
theorem dX5_common_18 : decode cX5_common 18 = .ok (.goto (-14), 3) := by decide +kernel
theorem dX5_common_21 : decode cX5_common 21 = .ok (.iload_n 2, 1) := by decide +kernel
theorem dX5_common_22 : decode cX5_common 22 = .ok (.ireturn, 1) := by decide +kernel
theorem dX5_odds_0 : decode cX5_odds 0 = .ok (.aload_n 0, 1) := by decide +kernel
theorem dX5_odds_1 : decode cX5_odds 1 = .ok (.iload_n 1, 1) := by decide +kernel
theorem dX5_odds_2 : decode cX5_odds 2 = .ok (.iload_n 2, 1) := by decide +kernel
theorem dX5_odds_3 : decode cX5_odds 3 = .ok (.invokevirtual 103, 3) := by decide +kernel
theorem dX5_odds_6 : decode cX5_odds 6 = .ok (.ifCond .eq 26, 3) := by decide +kernel
theorem dX5_odds_9 : decode cX5_odds 9 = .ok (.iload_n 3, 1) := by decide +kernel
theorem dX5_odds_10 : decode cX5_odds 10 = .ok (.i2l, 1) := by decide +kernel
theorem dX5_odds_11 : decode cX5_odds 11 = .ok (.lconst 0, 1) := by decide +kernel
theorem dX5_odds_12 : decode cX5_odds 12 = .ok (.ldc2_w 190, 3) := by decide +kernel
theorem dX5_odds_15 : decode cX5_odds 15 = .ok (.invokestatic 42, 3) := by decide +kernel
theorem dX5_odds_18 : decode cX5_odds 18 = .ok (.ifCond .eq 14, 3) := by decide +kernel
theorem dX5_odds_21 : decode cX5_odds 21 = .ok (.iload 4, 2) := by decide +kernel
theorem dX5_odds_23 : decode cX5_odds 23 = .ok (.i2l, 1) := by decide +kernel
theorem dX5_odds_24 : decode cX5_odds 24 = .ok (.lconst 0, 1) := by decide +kernel
theorem dX5_odds_25 : decode cX5_odds 25 = .ok (.lconst 1, 1) := by decide +kernel
theorem dX5_odds_26 : decode cX5_odds 26 = .ok (.invokestatic 42, 3) := by decide +kernel
theorem dX5_odds_29 : decode cX5_odds 29 = .ok (.ifCond .ne 10, 3) := by decide +kernel
theorem dX5_odds_32 : decode cX5_odds 32 = .ok (.aload_n 0, 1) := by decide +kernel
theorem dX5_odds_33 : decode cX5_odds 33 = .ok (.iconst 0, 1) := by decide +kernel
theorem dX5_odds_34 : decode cX5_odds 34 = .ok (.invokevirtual 118, 3) := by decide +kernel
theorem dX5_odds_37 : decode cX5_odds 37 = .ok (.i2l, 1) := by decide +kernel
theorem dX5_odds_38 : decode cX5_odds 38 = .ok (.lreturn, 1) := by decide +kernel
theorem dX5_odds_39 : decode cX5_odds 39 = .ok (.aload_n 0, 1) := by decide +kernel
theorem dX5_odds_40 : decode cX5_odds 40 = .ok (.getfield 7, 3) := by decide +kernel
theorem dX5_odds_43 : decode cX5_odds 43 = .ok (.iconst 3, 1) := by decide +kernel
theorem dX5_odds_44 : decode cX5_odds 44 = .ok (.iaload, 1) := by decide +kernel
theorem dX5_odds_45 : decode cX5_odds 45 = .ok (.istore 5, 2) := by decide +kernel
theorem dX5_odds_47 : decode cX5_odds 47 = .ok (.iconst 0, 1) := by decide +kernel
theorem dX5_odds_48 : decode cX5_odds 48 = .ok (.istore 6, 2) := by decide +kernel
theorem dX5_odds_50 : decode cX5_odds 50 = .ok (.iconst 1, 1) := by decide +kernel
theorem dX5_odds_51 : decode cX5_odds 51 = .ok (.istore 7, 2) := by decide +kernel
theorem dX5_odds_53 : decode cX5_odds 53 = .ok (.iload 7, 2) := by decide +kernel
theorem dX5_odds_55 : decode cX5_odds 55 = .ok (.bipush 20, 2) := by decide +kernel
theorem dX5_odds_57 : decode cX5_odds 57 = .ok (.if_icmp .gt 36, 3) := by decide +kernel
theorem dX5_odds_60 : decode cX5_odds 60 = .ok (.aload_n 0, 1) := by decide +kernel
theorem dX5_odds_61 : decode cX5_odds 61 = .ok (.getfield 7, 3) := by decide +kernel
theorem dX5_odds_64 : decode cX5_odds 64 = .ok (.iconst 3, 1) := by decide +kernel
theorem dX5_odds_65 : decode cX5_odds 65 = .ok (.iload 7, 2) := by decide +kernel
theorem dX5_odds_67 : decode cX5_odds 67 = .ok (.iastore, 1) := by decide +kernel
theorem dX5_odds_68 : decode cX5_odds 68 = .ok (.iload 6, 2) := by decide +kernel
theorem dX5_odds_70 : decode cX5_odds 70 = .ok (.aload_n 0, 1) := by decide +kernel
theorem dX5_odds_71 : decode cX5_odds 71 = .ok (.iload_n 1, 1) := by decide +kernel
theorem dX5_odds_72 : decode cX5_odds 72 = .ok (.iload_n 2, 1) := by decide +kernel
theorem dX5_odds_73 : decode cX5_odds 73 = .ok (.invokevirtual 87, 3) := by decide +kernel
theorem dX5_odds_76 : decode cX5_odds 76 = .ok (.ifCond .eq 7, 3) := by decide +kernel
theorem dX5_odds_79 : decode cX5_odds 79 = .ok (.iconst 0, 1) := by decide +kernel
theorem dX5_odds_80 : decode cX5_odds 80 = .ok (.goto 4, 3) := by decide +kernel
theorem dX5_odds_83 : decode cX5_odds 83 = .ok (.iconst 1, 1) := by decide +kernel
theorem dX5_odds_84 : decode cX5_odds 84 = .ok (.iadd, 1) := by decide +kernel
theorem dX5_odds_85 : decode cX5_odds 85 = .ok (.istore 6, 2) := by decide +kernel
theorem dX5_odds_87 : decode cX5_odds 87 = .ok (.iinc 7 1, 3) := by decide +kernel
theorem dX5_odds_90 : decode cX5_odds 90 = .ok (.goto (-37), 3) := by decide +kernel
theorem dX5_odds_93 : decode cX5_odds 93 = .ok (.aload_n 0, 1) := by decide +kernel
theorem dX5_odds_94 : decode cX5_odds 94 = .ok (.getfield 7, 3) := by decide +kernel
theorem dX5_odds_97 : decode cX5_odds 97 = .ok (.iconst 3, 1) := by decide +kernel
theorem dX5_odds_98 : decode cX5_odds 98 = .ok (.iload 5, 2) := by decide +kernel
theorem dX5_odds_100 : decode cX5_odds 100 = .ok (.iastore, 1) := by decide +kernel
theorem dX5_odds_101 : decode cX5_odds 101 = .ok (.iload 6, 2) := by decide +kernel
theorem dX5_odds_103 : decode cX5_odds 103 = .ok (.bipush 20, 2) := by decide +kernel
theorem dX5_odds_105 : decode cX5_odds 105 = .ok (.invokestatic 192, 3) := by decide +kernel
theorem dX5_odds_108 : decode cX5_odds 108 = .ok (.istore 7, 2) := by decide +kernel
theorem dX5_odds_110 : decode cX5_odds 110 = .ok (.lconst 1, 1) := by decide +kernel
theorem dX5_odds_111 : decode cX5_odds 111 = .ok (.lstore 8, 2) := by decide +kernel
theorem dX5_odds_113 : decode cX5_odds 113 = .ok (.iconst 0, 1) := by decide +kernel
theorem dX5_odds_114 : decode cX5_odds 114 = .ok (.istore 10, 2) := by decide +kernel
theorem dX5_odds_116 : decode cX5_odds 116 = .ok (.iload 10, 2) := by decide +kernel
theorem dX5_odds_118 : decode cX5_odds 118 = .ok (.iload_n 3, 1) := by decide +kernel
theorem dX5_odds_119 : decode cX5_odds 119 = .ok (.if_icmp .ge 34, 3) := by decide +kernel
theorem dX5_odds_122 : decode cX5_odds 122 = .ok (.lload 8, 2) := by decide +kernel
theorem dX5_odds_124 : decode cX5_odds 124 = .ok (.iload 4, 2) := by decide +kernel
theorem dX5_odds_126 : decode cX5_odds 126 = .ok (.ifCond .ne 12, 3) := by decide +kernel
theorem dX5_odds_129 : decode cX5_odds 129 = .ok (.iload 6, 2) := by decide +kernel
theorem dX5_odds_131 : decode cX5_odds 131 = .ok (.iload 7, 2) := by decide +kernel
theorem dX5_odds_133 : decode cX5_odds 133 = .ok (.idiv, 1) := by decide +kernel
theorem dX5_odds_134 : decode cX5_odds 134 = .ok (.i2l, 1) := by decide +kernel
theorem dX5_odds_135 : decode cX5_odds 135 = .ok (.goto 9, 3) := by decide +kernel
theorem dX5_odds_138 : decode cX5_odds 138 = .ok (.bipush 20, 2) := by decide +kernel
theorem dX5_odds_140 : decode cX5_odds 140 = .ok (.iload 7, 2) := by decide +kernel
theorem dX5_odds_142 : decode cX5_odds 142 = .ok (.idiv, 1) := by decide +kernel
theorem dX5_odds_143 : decode cX5_odds 143 = .ok (.i2l, 1) := by decide +kernel
theorem dX5_odds_144 : decode cX5_odds 144 = .ok (.lmul, 1) := by decide +kernel
theorem dX5_odds_145 : decode cX5_odds 145 = .ok (.lstore 8, 2) := by decide +kernel
theorem dX5_odds_147 : decode cX5_odds 147 = .ok (.iinc 10 1, 3) := by decide +kernel
theorem dX5_odds_150 : decode cX5_odds 150 = .ok (.goto (-34), 3) := by decide +kernel
theorem dX5_odds_153 : decode cX5_odds 153 = .ok (.lload 8, 2) := by decide +kernel
theorem dX5_odds_155 : decode cX5_odds 155 = .ok (.lreturn, 1) := by decide +kernel
theorem dX5_seed_0 : decode cX5_seed 0 = .ok (.aload_n 0, 1) := by decide +kernel
theorem dX5_seed_1 : decode cX5_seed 1 = .ok (.iconst 2, 1) := by decide +kernel
theorem dX5_seed_2 : decode cX5_seed 2 = .ok (.iload_n 1, 1) := by decide +kernel
theorem dX5_seed_3 : decode cX5_seed 3 = .ok (.invokevirtual 115, 3) := by decide +kernel
theorem dX5_seed_6 : decode cX5_seed 6 = .ok (.ireturn, 1) := by decide +kernel
theorem dX5_feed_0 : decode cX5_feed 0 = .ok (.iload_n 2, 1) := by decide +kernel
theorem dX5_feed_1 : decode cX5_feed 1 = .ok (.i2l, 1) := by decide +kernel
theorem dX5_feed_2 : decode cX5_feed 2 = .ok (.lconst 1, 1) := by decide +kernel
theorem dX5_feed_3 : decode cX5_feed 3 = .ok (.ldc2_w 195, 3) := by decide +kernel
theorem dX5_feed_6 : decode cX5_feed 6 = .ok (.invokestatic 42, 3) := by decide +kernel
theorem dX5_feed_9 : decode cX5_feed 9 = .ok (.ifCond .ne 9, 3) := by decide +kernel
theorem dX5_feed_12 : decode cX5_feed 12 = .ok (.aload_n 0, 1) := by decide +kernel
theorem dX5_feed_13 : decode cX5_feed 13 = .ok (.iconst 0, 1) := by decide +kernel
theorem dX5_feed_14 : decode cX5_feed 14 = .ok (.invokevirtual 118, 3) := by decide +kernel
theorem dX5_feed_17 : decode cX5_feed 17 = .ok (.ireturn, 1) := by decide +kernel
theorem dX5_feed_18 : decode cX5_feed 18 = .ok (.aload_n 0, 1) := by decide +kernel
theorem dX5_feed_19 : decode cX5_feed 19 = .ok (.getfield 197, 3) := by decide +kernel
theorem dX5_feed_22 : decode cX5_feed 22 = .ok (.iload_n 2, 1) := by decide +kernel
theorem dX5_feed_23 : decode cX5_feed 23 = .ok (.iadd, 1) := by decide +kernel
theorem dX5_feed_24 : decode cX5_feed 24 = .ok (.bipush 120, 2) := by decide +kernel
theorem dX5_feed_26 : decode cX5_feed 26 = .ok (.if_icmp .le 9, 3) := by decide +kernel
theorem dX5_feed_29 : decode cX5_feed 29 = .ok (.aload_n 0, 1) := by decide +kernel
theorem dX5_feed_30 : decode cX5_feed 30 = .ok (.iconst 1, 1) := by decide +kernel
theorem dX5_feed_31 : decode cX5_feed 31 = .ok (.invokevirtual 118, 3) := by decide +kernel
theorem dX5_feed_34 : decode cX5_feed 34 = .ok (.ireturn, 1) := by decide +kernel
theorem dX5_feed_35 : decode cX5_feed 35 = .ok (.iload_n 2, 1) := by decide +kernel
theorem dX5_feed_36 : decode cX5_feed 36 = .ok (.iconst 1, 1) := by decide +kernel
theorem dX5_feed_37 : decode cX5_feed 37 = .ok (.isub, 1) := by decide +kernel
theorem dX5_feed_38 : decode cX5_feed 38 = .ok (.istore_n 3, 1) := by decide +kernel
theorem dX5_feed_39 : decode cX5_feed 39 = .ok (.iload_n 3, 1) := by decide +kernel
theorem dX5_feed_40 : decode cX5_feed 40 = .ok (.ifCond .lt 35, 3) := by decide +kernel
theorem dX5_feed_43 : decode cX5_feed 43 = .ok (.aload_n 0, 1) := by decide +kernel
theorem dX5_feed_44 : decode cX5_feed 44 = .ok (.getfield 25, 3) := by decide +kernel
theorem dX5_feed_47 : decode cX5_feed 47 = .ok (.aload_n 0, 1) := by decide +kernel
theorem dX5_feed_48 : decode cX5_feed 48 = .ok (.getfield 197, 3) := by decide +kernel
theorem dX5_feed_51 : decode cX5_feed 51 = .ok (.iload_n 1, 1) := by decide +kernel
theorem dX5_feed_52 : decode cX5_feed 52 = .ok (.bipush 8, 2) := by decide +kernel
theorem dX5_feed_54 : decode cX5_feed 54 = .ok (.iload_n 3, 1) := by decide +kernel
theorem dX5_feed_55 : decode cX5_feed 55 = .ok (.imul, 1) := by decide +kernel
theorem dX5_feed_56 : decode cX5_feed 56 = .ok (.ishr, 1) := by decide +kernel
theorem dX5_feed_57 : decode cX5_feed 57 = .ok (.i2b, 1) := by decide +kernel
theorem dX5_feed_58 : decode cX5_feed 58 = .ok (.bastore, 1) := by decide +kernel
theorem dX5_feed_59 : decode cX5_feed 59 = .ok (.aload_n 0, 1) := by decide +kernel
theorem dX5_feed_60 : decode cX5_feed 60 = .ok (.dup, 1) := by decide +kernel
theorem dX5_feed_61 : decode cX5_feed 61 = .ok (.getfield 197, 3) := by decide +kernel
theorem dX5_feed_64 : decode cX5_feed 64 = .ok (.iconst 1, 1) := by decide +kernel
theorem dX5_feed_65 : decode cX5_feed 65 = .ok (.iadd, 1) := by decide +kernel
theorem dX5_feed_66 : decode cX5_feed 66 = .ok (.putfield 197, 3) := by decide +kernel
theorem dX5_feed_69 : decode cX5_feed 69 = .ok (.iinc 3 (-1), 3) := by decide +kernel
theorem dX5_feed_72 : decode cX5_feed 72 = .ok (.goto (-33), 3) := by decide +kernel
theorem dX5_feed_75 : decode cX5_feed 75 = .ok (.aload_n 0, 1) := by decide +kernel
theorem dX5_feed_76 : decode cX5_feed 76 = .ok (.getfield 197, 3) := by decide +kernel
theorem dX5_feed_79 : decode cX5_feed 79 = .ok (.ireturn, 1) := by decide +kernel
theorem dX5_wipe_0 : decode cX5_wipe 0 = .ok (.aload_n 0, 1) := by decide +kernel
theorem dX5_wipe_1 : decode cX5_wipe 1 = .ok (.getfield 197, 3) := by decide +kernel
theorem dX5_wipe_4 : decode cX5_wipe 4 = .ok (.istore_n 1, 1) := by decide +kernel
theorem dX5_wipe_5 : decode cX5_wipe 5 = .ok (.aload_n 0, 1) := by decide +kernel
theorem dX5_wipe_6 : decode cX5_wipe 6 = .ok (.iconst 0, 1) := by decide +kernel
theorem dX5_wipe_7 : decode cX5_wipe 7 = .ok (.putfield 197, 3) := by decide +kernel
theorem dX5_wipe_10 : decode cX5_wipe 10 = .ok (.iload_n 1, 1) := by decide +kernel
theorem dX5_wipe_11 : decode cX5_wipe 11 = .ok (.ireturn, 1) := by decide +kernel
theorem dX5_letter_0 : decode cX5_letter 0 = .ok (.iload_n 0, 1) := by decide +kernel
theorem dX5_letter_1 : decode cX5_letter 1 = .ok (.bipush 97, 2) := by decide +kernel
theorem dX5_letter_3 : decode cX5_letter 3 = .ok (.if_icmp .lt 18, 3) := by decide +kernel
theorem dX5_letter_6 : decode cX5_letter 6 = .ok (.iload_n 0, 1) := by decide +kernel
theorem dX5_letter_7 : decode cX5_letter 7 = .ok (.bipush 122, 2) := by decide +kernel
theorem dX5_letter_9 : decode cX5_letter 9 = .ok (.if_icmp .gt 12, 3) := by decide +kernel
theorem dX5_letter_12 : decode cX5_letter 12 = .ok (.iload_n 0, 1) := by decide +kernel
theorem dX5_letter_13 : decode cX5_letter 13 = .ok (.bipush 97, 2) := by decide +kernel
theorem dX5_letter_15 : decode cX5_letter 15 = .ok (.isub, 1) := by decide +kernel
theorem dX5_letter_16 : decode cX5_letter 16 = .ok (.iconst 1, 1) := by decide +kernel
theorem dX5_letter_17 : decode cX5_letter 17 = .ok (.iadd, 1) := by decide +kernel
theorem dX5_letter_18 : decode cX5_letter 18 = .ok (.goto 4, 3) := by decide +kernel
theorem dX5_letter_21 : decode cX5_letter 21 = .ok (.iconst 0, 1) := by decide +kernel
theorem dX5_letter_22 : decode cX5_letter 22 = .ok (.ireturn, 1) := by decide +kernel
theorem dX5_isDigit_0 : decode cX5_isDigit 0 = .ok (.iload_n 0, 1) := by decide +kernel
theorem dX5_isDigit_1 : decode cX5_isDigit 1 = .ok (.bipush 48, 2) := by decide +kernel
theorem dX5_isDigit_3 : decode cX5_isDigit 3 = .ok (.if_icmp .lt 13, 3) := by decide +kernel
theorem dX5_isDigit_6 : decode cX5_isDigit 6 = .ok (.iload_n 0, 1) := by decide +kernel
theorem dX5_isDigit_7 : decode cX5_isDigit 7 = .ok (.bipush 57, 2) := by decide +kernel
theorem dX5_isDigit_9 : decode cX5_isDigit 9 = .ok (.if_icmp .gt 7, 3) := by decide +kernel
theorem dX5_isDigit_12 : decode cX5_isDigit 12 = .ok (.iconst 1, 1) := by decide +kernel
theorem dX5_isDigit_13 : decode cX5_isDigit 13 = .ok (.goto 4, 3) := by decide +kernel
theorem dX5_isDigit_16 : decode cX5_isDigit 16 = .ok (.iconst 0, 1) := by decide +kernel
theorem dX5_isDigit_17 : decode cX5_isDigit 17 = .ok (.ireturn, 1) := by decide +kernel
theorem dX5_byteAt_0 : decode cX5_byteAt 0 = .ok (.iload_n 1, 1) := by decide +kernel
theorem dX5_byteAt_1 : decode cX5_byteAt 1 = .ok (.aload_n 0, 1) := by decide +kernel
theorem dX5_byteAt_2 : decode cX5_byteAt 2 = .ok (.getfield 197, 3) := by decide +kernel
theorem dX5_byteAt_5 : decode cX5_byteAt 5 = .ok (.if_icmp .ge 12, 3) := by decide +kernel
theorem dX5_byteAt_8 : decode cX5_byteAt 8 = .ok (.aload_n 0, 1) := by decide +kernel
theorem dX5_byteAt_9 : decode cX5_byteAt 9 = .ok (.getfield 25, 3) := by decide +kernel
theorem dX5_byteAt_12 : decode cX5_byteAt 12 = .ok (.iload_n 1, 1) := by decide +kernel
theorem dX5_byteAt_13 : decode cX5_byteAt 13 = .ok (.baload, 1) := by decide +kernel
theorem dX5_byteAt_14 : decode cX5_byteAt 14 = .ok (.goto 4, 3) := by decide +kernel
theorem dX5_byteAt_17 : decode cX5_byteAt 17 = .ok (.iconst (-1), 1) := by decide +kernel
theorem dX5_byteAt_18 : decode cX5_byteAt 18 = .ok (.ireturn, 1) := by decide +kernel
theorem dX5_next__0 : decode cX5_next_ 0 = .ok (.aload_n 0, 1) := by decide +kernel
theorem dX5_next__1 : decode cX5_next_ 1 = .ok (.aload_n 0, 1) := by decide +kernel
theorem dX5_next__2 : decode cX5_next_ 2 = .ok (.getfield 201, 3) := by decide +kernel
theorem dX5_next__5 : decode cX5_next_ 5 = .ok (.invokevirtual 204, 3) := by decide +kernel
theorem dX5_next__8 : decode cX5_next_ 8 = .ok (.bipush 32, 2) := by decide +kernel
theorem dX5_next__10 : decode cX5_next_ 10 = .ok (.if_icmp .ne 16, 3) := by decide +kernel
theorem dX5_next__13 : decode cX5_next_ 13 = .ok (.aload_n 0, 1) := by decide +kernel
theorem dX5_next__14 : decode cX5_next_ 14 = .ok (.dup, 1) := by decide +kernel
theorem dX5_next__15 : decode cX5_next_ 15 = .ok (.getfield 201, 3) := by decide +kernel
theorem dX5_next__18 : decode cX5_next_ 18 = .ok (.iconst 1, 1) := by decide +kernel
theorem dX5_next__19 : decode cX5_next_ 19 = .ok (.iadd, 1) := by decide +kernel
theorem dX5_next__20 : decode cX5_next_ 20 = .ok (.putfield 201, 3) := by decide +kernel
theorem dX5_next__23 : decode cX5_next_ 23 = .ok (.goto (-23), 3) := by decide +kernel
theorem dX5_next__26 : decode cX5_next_ 26 = .ok (.aload_n 0, 1) := by decide +kernel
theorem dX5_next__27 : decode cX5_next_ 27 = .ok (.aload_n 0, 1) := by decide +kernel
theorem dX5_next__28 : decode cX5_next_ 28 = .ok (.getfield 201, 3) := by decide +kernel
theorem dX5_next__31 : decode cX5_next_ 31 = .ok (.putfield 207, 3) := by decide +kernel
theorem dX5_next__34 : decode cX5_next_ 34 = .ok (.aload_n 0, 1) := by decide +kernel
theorem dX5_next__35 : decode cX5_next_ 35 = .ok (.lconst 0, 1) := by decide +kernel
theorem dX5_next__36 : decode cX5_next_ 36 = .ok (.putfield 210, 3) := by decide +kernel
theorem dX5_next__39 : decode cX5_next_ 39 = .ok (.aload_n 0, 1) := by decide +kernel
theorem dX5_next__40 : decode cX5_next_ 40 = .ok (.aload_n 0, 1) := by decide +kernel
theorem dX5_next__41 : decode cX5_next_ 41 = .ok (.getfield 201, 3) := by decide +kernel
theorem dX5_next__44 : decode cX5_next_ 44 = .ok (.invokevirtual 204, 3) := by decide +kernel
theorem dX5_next__47 : decode cX5_next_ 47 = .ok (.istore_n 1, 1) := by decide +kernel
theorem dX5_next__48 : decode cX5_next_ 48 = .ok (.aload_n 0, 1) := by decide +kernel
theorem dX5_next__49 : decode cX5_next_ 49 = .ok (.getfield 201, 3) := by decide +kernel
theorem dX5_next__52 : decode cX5_next_ 52 = .ok (.aload_n 0, 1) := by decide +kernel
theorem dX5_next__53 : decode cX5_next_ 53 = .ok (.getfield 197, 3) := by decide +kernel
theorem dX5_next__56 : decode cX5_next_ 56 = .ok (.if_icmp .ne 11, 3) := by decide +kernel
theorem dX5_next__59 : decode cX5_next_ 59 = .ok (.aload_n 0, 1) := by decide +kernel
theorem dX5_next__60 : decode cX5_next_ 60 = .ok (.iconst 0, 1) := by decide +kernel
theorem dX5_next__61 : decode cX5_next_ 61 = .ok (.putfield 214, 3) := by decide +kernel
theorem dX5_next__64 : decode cX5_next_ 64 = .ok (.goto 197, 3) := by decide +kernel
theorem dX5_next__67 : decode cX5_next_ 67 = .ok (.iload_n 1, 1) := by decide +kernel
theorem dX5_next__68 : decode cX5_next_ 68 = .ok (.bipush 59, 2) := by decide +kernel
theorem dX5_next__70 : decode cX5_next_ 70 = .ok (.if_icmp .ne 21, 3) := by decide +kernel
theorem dX5_next__73 : decode cX5_next_ 73 = .ok (.aload_n 0, 1) := by decide +kernel
theorem dX5_next__74 : decode cX5_next_ 74 = .ok (.iconst 3, 1) := by decide +kernel
theorem dX5_next__75 : decode cX5_next_ 75 = .ok (.putfield 214, 3) := by decide +kernel
theorem dX5_next__78 : decode cX5_next_ 78 = .ok (.aload_n 0, 1) := by decide +kernel
theorem dX5_next__79 : decode cX5_next_ 79 = .ok (.dup, 1) := by decide +kernel
theorem dX5_next__80 : decode cX5_next_ 80 = .ok (.getfield 201, 3) := by decide +kernel
theorem dX5_next__83 : decode cX5_next_ 83 = .ok (.iconst 1, 1) := by decide +kernel
theorem dX5_next__84 : decode cX5_next_ 84 = .ok (.iadd, 1) := by decide +kernel
theorem dX5_next__85 : decode cX5_next_ 85 = .ok (.putfield 201, 3) := by decide +kernel
theorem dX5_next__88 : decode cX5_next_ 88 = .ok (.goto 173, 3) := by decide +kernel
theorem dX5_next__91 : decode cX5_next_ 91 = .ok (.iload_n 1, 1) := by decide +kernel
theorem dX5_next__92 : decode cX5_next_ 92 = .ok (.invokestatic 217, 3) := by decide +kernel
theorem dX5_next__95 : decode cX5_next_ 95 = .ok (.ifCond .le 78, 3) := by decide +kernel
theorem dX5_next__98 : decode cX5_next_ 98 = .ok (.aload_n 0, 1) := by decide +kernel
theorem dX5_next__99 : decode cX5_next_ 99 = .ok (.iconst 1, 1) := by decide +kernel
theorem dX5_next__100 : decode cX5_next_ 100 = .ok (.putfield 214, 3) := by decide +kernel
theorem dX5_next__103 : decode cX5_next_ 103 = .ok (.aload_n 0, 1) := by decide +kernel
theorem dX5_next__104 : decode cX5_next_ 104 = .ok (.aload_n 0, 1) := by decide +kernel
theorem dX5_next__105 : decode cX5_next_ 105 = .ok (.getfield 201, 3) := by decide +kernel
theorem dX5_next__108 : decode cX5_next_ 108 = .ok (.invokevirtual 204, 3) := by decide +kernel
theorem dX5_next__111 : decode cX5_next_ 111 = .ok (.invokestatic 217, 3) := by decide +kernel
theorem dX5_next__114 : decode cX5_next_ 114 = .ok (.ifCond .le 147, 3) := by decide +kernel
theorem dX5_next__117 : decode cX5_next_ 117 = .ok (.aload_n 0, 1) := by decide +kernel
theorem dX5_next__118 : decode cX5_next_ 118 = .ok (.aload_n 0, 1) := by decide +kernel
theorem dX5_next__119 : decode cX5_next_ 119 = .ok (.getfield 210, 3) := by decide +kernel
theorem dX5_next__122 : decode cX5_next_ 122 = .ok (.ldc2_w 220, 3) := by decide +kernel
theorem dX5_next__125 : decode cX5_next_ 125 = .ok (.lcmp, 1) := by decide +kernel
theorem dX5_next__126 : decode cX5_next_ 126 = .ok (.ifCond .le 10, 3) := by decide +kernel
theorem dX5_next__129 : decode cX5_next_ 129 = .ok (.aload_n 0, 1) := by decide +kernel
theorem dX5_next__130 : decode cX5_next_ 130 = .ok (.getfield 210, 3) := by decide +kernel
theorem dX5_next__133 : decode cX5_next_ 133 = .ok (.goto 24, 3) := by decide +kernel
theorem dX5_next__136 : decode cX5_next_ 136 = .ok (.aload_n 0, 1) := by decide +kernel
theorem dX5_next__137 : decode cX5_next_ 137 = .ok (.getfield 210, 3) := by decide +kernel
theorem dX5_next__140 : decode cX5_next_ 140 = .ok (.ldc2_w 222, 3) := by decide +kernel
theorem dX5_next__143 : decode cX5_next_ 143 = .ok (.lmul, 1) := by decide +kernel
theorem dX5_next__144 : decode cX5_next_ 144 = .ok (.aload_n 0, 1) := by decide +kernel
theorem dX5_next__145 : decode cX5_next_ 145 = .ok (.aload_n 0, 1) := by decide +kernel
theorem dX5_next__146 : decode cX5_next_ 146 = .ok (.getfield 201, 3) := by decide +kernel
theorem dX5_next__149 : decode cX5_next_ 149 = .ok (.invokevirtual 204, 3) := by decide +kernel
theorem dX5_next__152 : decode cX5_next_ 152 = .ok (.invokestatic 217, 3) := by decide +kernel
theorem dX5_next__155 : decode cX5_next_ 155 = .ok (.i2l, 1) := by decide +kernel
theorem dX5_next__156 : decode cX5_next_ 156 = .ok (.ladd, 1) := by decide +kernel
theorem dX5_next__157 : decode cX5_next_ 157 = .ok (.putfield 210, 3) := by decide +kernel
theorem dX5_next__160 : decode cX5_next_ 160 = .ok (.aload_n 0, 1) := by decide +kernel
theorem dX5_next__161 : decode cX5_next_ 161 = .ok (.dup, 1) := by decide +kernel
theorem dX5_next__162 : decode cX5_next_ 162 = .ok (.getfield 201, 3) := by decide +kernel
theorem dX5_next__165 : decode cX5_next_ 165 = .ok (.iconst 1, 1) := by decide +kernel
theorem dX5_next__166 : decode cX5_next_ 166 = .ok (.iadd, 1) := by decide +kernel
theorem dX5_next__167 : decode cX5_next_ 167 = .ok (.putfield 201, 3) := by decide +kernel
theorem dX5_next__170 : decode cX5_next_ 170 = .ok (.goto (-67), 3) := by decide +kernel
theorem dX5_next__173 : decode cX5_next_ 173 = .ok (.iload_n 1, 1) := by decide +kernel
theorem dX5_next__174 : decode cX5_next_ 174 = .ok (.invokestatic 224, 3) := by decide +kernel
theorem dX5_next__177 : decode cX5_next_ 177 = .ok (.ifCond .eq 79, 3) := by decide +kernel
theorem dX5_next__180 : decode cX5_next_ 180 = .ok (.aload_n 0, 1) := by decide +kernel
theorem dX5_next__181 : decode cX5_next_ 181 = .ok (.iconst 2, 1) := by decide +kernel
theorem dX5_next__182 : decode cX5_next_ 182 = .ok (.putfield 214, 3) := by decide +kernel
theorem dX5_next__185 : decode cX5_next_ 185 = .ok (.aload_n 0, 1) := by decide +kernel
theorem dX5_next__186 : decode cX5_next_ 186 = .ok (.aload_n 0, 1) := by decide +kernel
theorem dX5_next__187 : decode cX5_next_ 187 = .ok (.getfield 201, 3) := by decide +kernel
theorem dX5_next__190 : decode cX5_next_ 190 = .ok (.invokevirtual 204, 3) := by decide +kernel
theorem dX5_next__193 : decode cX5_next_ 193 = .ok (.invokestatic 224, 3) := by decide +kernel
theorem dX5_next__196 : decode cX5_next_ 196 = .ok (.ifCond .eq 65, 3) := by decide +kernel
theorem dX5_next__199 : decode cX5_next_ 199 = .ok (.aload_n 0, 1) := by decide +kernel
theorem dX5_next__200 : decode cX5_next_ 200 = .ok (.aload_n 0, 1) := by decide +kernel
theorem dX5_next__201 : decode cX5_next_ 201 = .ok (.getfield 210, 3) := by decide +kernel
theorem dX5_next__204 : decode cX5_next_ 204 = .ok (.ldc2_w 227, 3) := by decide +kernel
theorem dX5_next__207 : decode cX5_next_ 207 = .ok (.lcmp, 1) := by decide +kernel
theorem dX5_next__208 : decode cX5_next_ 208 = .ok (.ifCond .le 10, 3) := by decide +kernel
theorem dX5_next__211 : decode cX5_next_ 211 = .ok (.aload_n 0, 1) := by decide +kernel
theorem dX5_next__212 : decode cX5_next_ 212 = .ok (.getfield 210, 3) := by decide +kernel
theorem dX5_next__215 : decode cX5_next_ 215 = .ok (.goto 25, 3) := by decide +kernel
theorem dX5_next__218 : decode cX5_next_ 218 = .ok (.aload_n 0, 1) := by decide +kernel
theorem dX5_next__219 : decode cX5_next_ 219 = .ok (.getfield 210, 3) := by decide +kernel
theorem dX5_next__222 : decode cX5_next_ 222 = .ok (.ldc2_w 229, 3) := by decide +kernel
theorem dX5_next__225 : decode cX5_next_ 225 = .ok (.lmul, 1) := by decide +kernel
theorem dX5_next__226 : decode cX5_next_ 226 = .ok (.aload_n 0, 1) := by decide +kernel
theorem dX5_next__227 : decode cX5_next_ 227 = .ok (.aload_n 0, 1) := by decide +kernel
theorem dX5_next__228 : decode cX5_next_ 228 = .ok (.getfield 201, 3) := by decide +kernel
theorem dX5_next__231 : decode cX5_next_ 231 = .ok (.invokevirtual 204, 3) := by decide +kernel
theorem dX5_next__234 : decode cX5_next_ 234 = .ok (.i2l, 1) := by decide +kernel
theorem dX5_next__235 : decode cX5_next_ 235 = .ok (.ladd, 1) := by decide +kernel
theorem dX5_next__236 : decode cX5_next_ 236 = .ok (.ldc2_w 231, 3) := by decide +kernel
theorem dX5_next__239 : decode cX5_next_ 239 = .ok (.lsub, 1) := by decide +kernel
theorem dX5_next__240 : decode cX5_next_ 240 = .ok (.putfield 210, 3) := by decide +kernel
theorem dX5_next__243 : decode cX5_next_ 243 = .ok (.aload_n 0, 1) := by decide +kernel
theorem dX5_next__244 : decode cX5_next_ 244 = .ok (.dup, 1) := by decide +kernel
theorem dX5_next__245 : decode cX5_next_ 245 = .ok (.getfield 201, 3) := by decide +kernel
theorem dX5_next__248 : decode cX5_next_ 248 = .ok (.iconst 1, 1) := by decide +kernel
theorem dX5_next__249 : decode cX5_next_ 249 = .ok (.iadd, 1) := by decide +kernel
theorem dX5_next__250 : decode cX5_next_ 250 = .ok (.putfield 201, 3) := by decide +kernel
theorem dX5_next__253 : decode cX5_next_ 253 = .ok (.goto (-68), 3) := by decide +kernel
theorem dX5_next__256 : decode cX5_next_ 256 = .ok (.aload_n 0, 1) := by decide +kernel
theorem dX5_next__257 : decode cX5_next_ 257 = .ok (.iconst 4, 1) := by decide +kernel
theorem dX5_next__258 : decode cX5_next_ 258 = .ok (.putfield 214, 3) := by decide +kernel
theorem dX5_next__261 : decode cX5_next_ 261 = .ok (.return_, 1) := by decide +kernel
theorem dX5_wrongHere_0 : decode cX5_wrongHere 0 = .ok (.aload_n 0, 1) := by decide +kernel
theorem dX5_wrongHere_1 : decode cX5_wrongHere 1 = .ok (.aload_n 0, 1) := by decide +kernel
theorem dX5_wrongHere_2 : decode cX5_wrongHere 2 = .ok (.getfield 233, 3) := by decide +kernel
theorem dX5_wrongHere_5 : decode cX5_wrongHere 5 = .ok (.ifCond .ge 10, 3) := by decide +kernel
theorem dX5_wrongHere_8 : decode cX5_wrongHere 8 = .ok (.aload_n 0, 1) := by decide +kernel
theorem dX5_wrongHere_9 : decode cX5_wrongHere 9 = .ok (.getfield 207, 3) := by decide +kernel
theorem dX5_wrongHere_12 : decode cX5_wrongHere 12 = .ok (.goto 7, 3) := by decide +kernel
theorem dX5_wrongHere_15 : decode cX5_wrongHere 15 = .ok (.aload_n 0, 1) := by decide +kernel
theorem dX5_wrongHere_16 : decode cX5_wrongHere 16 = .ok (.getfield 233, 3) := by decide +kernel
theorem dX5_wrongHere_19 : decode cX5_wrongHere 19 = .ok (.putfield 233, 3) := by decide +kernel
theorem dX5_wrongHere_22 : decode cX5_wrongHere 22 = .ok (.return_, 1) := by decide +kernel
theorem dX5_isWord_0 : decode cX5_isWord 0 = .ok (.aload_n 0, 1) := by decide +kernel
theorem dX5_isWord_1 : decode cX5_isWord 1 = .ok (.getfield 214, 3) := by decide +kernel
theorem dX5_isWord_4 : decode cX5_isWord 4 = .ok (.iconst 1, 1) := by decide +kernel
theorem dX5_isWord_5 : decode cX5_isWord 5 = .ok (.if_icmp .ne 16, 3) := by decide +kernel
theorem dX5_isWord_8 : decode cX5_isWord 8 = .ok (.aload_n 0, 1) := by decide +kernel
theorem dX5_isWord_9 : decode cX5_isWord 9 = .ok (.getfield 210, 3) := by decide +kernel
theorem dX5_isWord_12 : decode cX5_isWord 12 = .ok (.lload_n 1, 1) := by decide +kernel
theorem dX5_isWord_13 : decode cX5_isWord 13 = .ok (.lcmp, 1) := by decide +kernel
theorem dX5_isWord_14 : decode cX5_isWord 14 = .ok (.ifCond .ne 7, 3) := by decide +kernel
theorem dX5_isWord_17 : decode cX5_isWord 17 = .ok (.iconst 1, 1) := by decide +kernel
theorem dX5_isWord_18 : decode cX5_isWord 18 = .ok (.goto 4, 3) := by decide +kernel
theorem dX5_isWord_21 : decode cX5_isWord 21 = .ok (.iconst 0, 1) := by decide +kernel
theorem dX5_isWord_22 : decode cX5_isWord 22 = .ok (.ireturn, 1) := by decide +kernel
theorem dX5_kindHere_0 : decode cX5_kindHere 0 = .ok (.aload_n 0, 1) := by decide +kernel
theorem dX5_kindHere_1 : decode cX5_kindHere 1 = .ok (.ldc2_w 236, 3) := by decide +kernel
theorem dX5_kindHere_4 : decode cX5_kindHere 4 = .ok (.invokevirtual 238, 3) := by decide +kernel
theorem dX5_kindHere_7 : decode cX5_kindHere 7 = .ok (.ifCond .eq 7, 3) := by decide +kernel
theorem dX5_kindHere_10 : decode cX5_kindHere 10 = .ok (.iconst 0, 1) := by decide +kernel
theorem dX5_kindHere_11 : decode cX5_kindHere 11 = .ok (.goto 89, 3) := by decide +kernel
theorem dX5_kindHere_14 : decode cX5_kindHere 14 = .ok (.aload_n 0, 1) := by decide +kernel
theorem dX5_kindHere_15 : decode cX5_kindHere 15 = .ok (.ldc2_w 242, 3) := by decide +kernel
theorem dX5_kindHere_18 : decode cX5_kindHere 18 = .ok (.invokevirtual 238, 3) := by decide +kernel
theorem dX5_kindHere_21 : decode cX5_kindHere 21 = .ok (.ifCond .eq 7, 3) := by decide +kernel
theorem dX5_kindHere_24 : decode cX5_kindHere 24 = .ok (.iconst 1, 1) := by decide +kernel
theorem dX5_kindHere_25 : decode cX5_kindHere 25 = .ok (.goto 75, 3) := by decide +kernel
theorem dX5_kindHere_28 : decode cX5_kindHere 28 = .ok (.aload_n 0, 1) := by decide +kernel
theorem dX5_kindHere_29 : decode cX5_kindHere 29 = .ok (.ldc2_w 244, 3) := by decide +kernel
theorem dX5_kindHere_32 : decode cX5_kindHere 32 = .ok (.invokevirtual 238, 3) := by decide +kernel
theorem dX5_kindHere_35 : decode cX5_kindHere 35 = .ok (.ifCond .eq 7, 3) := by decide +kernel
theorem dX5_kindHere_38 : decode cX5_kindHere 38 = .ok (.iconst 2, 1) := by decide +kernel
theorem dX5_kindHere_39 : decode cX5_kindHere 39 = .ok (.goto 61, 3) := by decide +kernel
theorem dX5_kindHere_42 : decode cX5_kindHere 42 = .ok (.aload_n 0, 1) := by decide +kernel
theorem dX5_kindHere_43 : decode cX5_kindHere 43 = .ok (.ldc2_w 246, 3) := by decide +kernel
theorem dX5_kindHere_46 : decode cX5_kindHere 46 = .ok (.invokevirtual 238, 3) := by decide +kernel
theorem dX5_kindHere_49 : decode cX5_kindHere 49 = .ok (.ifCond .eq 7, 3) := by decide +kernel
theorem dX5_kindHere_52 : decode cX5_kindHere 52 = .ok (.iconst 3, 1) := by decide +kernel
theorem dX5_kindHere_53 : decode cX5_kindHere 53 = .ok (.goto 47, 3) := by decide +kernel
theorem dX5_kindHere_56 : decode cX5_kindHere 56 = .ok (.aload_n 0, 1) := by decide +kernel
theorem dX5_kindHere_57 : decode cX5_kindHere 57 = .ok (.ldc2_w 248, 3) := by decide +kernel
theorem dX5_kindHere_60 : decode cX5_kindHere 60 = .ok (.invokevirtual 238, 3) := by decide +kernel
theorem dX5_kindHere_63 : decode cX5_kindHere 63 = .ok (.ifCond .eq 7, 3) := by decide +kernel
theorem dX5_kindHere_66 : decode cX5_kindHere 66 = .ok (.iconst 4, 1) := by decide +kernel
theorem dX5_kindHere_67 : decode cX5_kindHere 67 = .ok (.goto 33, 3) := by decide +kernel
theorem dX5_kindHere_70 : decode cX5_kindHere 70 = .ok (.aload_n 0, 1) := by decide +kernel
theorem dX5_kindHere_71 : decode cX5_kindHere 71 = .ok (.ldc2_w 250, 3) := by decide +kernel
theorem dX5_kindHere_74 : decode cX5_kindHere 74 = .ok (.invokevirtual 238, 3) := by decide +kernel
theorem dX5_kindHere_77 : decode cX5_kindHere 77 = .ok (.ifCond .eq 7, 3) := by decide +kernel
theorem dX5_kindHere_80 : decode cX5_kindHere 80 = .ok (.iconst 5, 1) := by decide +kernel
theorem dX5_kindHere_81 : decode cX5_kindHere 81 = .ok (.goto 19, 3) := by decide +kernel
theorem dX5_kindHere_84 : decode cX5_kindHere 84 = .ok (.aload_n 0, 1) := by decide +kernel
theorem dX5_kindHere_85 : decode cX5_kindHere 85 = .ok (.ldc2_w 252, 3) := by decide +kernel
theorem dX5_kindHere_88 : decode cX5_kindHere 88 = .ok (.invokevirtual 238, 3) := by decide +kernel
theorem dX5_kindHere_91 : decode cX5_kindHere 91 = .ok (.ifCond .eq 8, 3) := by decide +kernel
theorem dX5_kindHere_94 : decode cX5_kindHere 94 = .ok (.bipush 6, 2) := by decide +kernel
theorem dX5_kindHere_96 : decode cX5_kindHere 96 = .ok (.goto 4, 3) := by decide +kernel
theorem dX5_kindHere_99 : decode cX5_kindHere 99 = .ok (.iconst (-1), 1) := by decide +kernel
theorem dX5_kindHere_100 : decode cX5_kindHere 100 = .ok (.ireturn, 1) := by decide +kernel
theorem dX5_numberHere_0 : decode cX5_numberHere 0 = .ok (.aload_n 0, 1) := by decide +kernel
theorem dX5_numberHere_1 : decode cX5_numberHere 1 = .ok (.getfield 210, 3) := by decide +kernel
theorem dX5_numberHere_4 : decode cX5_numberHere 4 = .ok (.l2i, 1) := by decide +kernel
theorem dX5_numberHere_5 : decode cX5_numberHere 5 = .ok (.istore 4, 2) := by decide +kernel
theorem dX5_numberHere_7 : decode cX5_numberHere 7 = .ok (.aload_n 0, 1) := by decide +kernel
theorem dX5_numberHere_8 : decode cX5_numberHere 8 = .ok (.getfield 214, 3) := by decide +kernel
theorem dX5_numberHere_11 : decode cX5_numberHere 11 = .ok (.iconst 2, 1) := by decide +kernel
theorem dX5_numberHere_12 : decode cX5_numberHere 12 = .ok (.if_icmp .ne 23, 3) := by decide +kernel
theorem dX5_numberHere_15 : decode cX5_numberHere 15 = .ok (.aload_n 0, 1) := by decide +kernel
theorem dX5_numberHere_16 : decode cX5_numberHere 16 = .ok (.getfield 210, 3) := by decide +kernel
theorem dX5_numberHere_19 : decode cX5_numberHere 19 = .ok (.iload_n 1, 1) := by decide +kernel
theorem dX5_numberHere_20 : decode cX5_numberHere 20 = .ok (.i2l, 1) := by decide +kernel
theorem dX5_numberHere_21 : decode cX5_numberHere 21 = .ok (.iload_n 2, 1) := by decide +kernel
theorem dX5_numberHere_22 : decode cX5_numberHere 22 = .ok (.i2l, 1) := by decide +kernel
theorem dX5_numberHere_23 : decode cX5_numberHere 23 = .ok (.invokestatic 42, 3) := by decide +kernel
theorem dX5_numberHere_26 : decode cX5_numberHere 26 = .ok (.ifCond .eq 9, 3) := by decide +kernel
theorem dX5_numberHere_29 : decode cX5_numberHere 29 = .ok (.iload 4, 2) := by decide +kernel
theorem dX5_numberHere_31 : decode cX5_numberHere 31 = .ok (.iload_n 3, 1) := by decide +kernel
theorem dX5_numberHere_32 : decode cX5_numberHere 32 = .ok (.if_icmp .ne 9, 3) := by decide +kernel
theorem dX5_numberHere_35 : decode cX5_numberHere 35 = .ok (.aload_n 0, 1) := by decide +kernel
theorem dX5_numberHere_36 : decode cX5_numberHere 36 = .ok (.invokevirtual 254, 3) := by decide +kernel
theorem dX5_numberHere_39 : decode cX5_numberHere 39 = .ok (.iconst 0, 1) := by decide +kernel
theorem dX5_numberHere_40 : decode cX5_numberHere 40 = .ok (.ireturn, 1) := by decide +kernel
theorem dX5_numberHere_41 : decode cX5_numberHere 41 = .ok (.aload_n 0, 1) := by decide +kernel
theorem dX5_numberHere_42 : decode cX5_numberHere 42 = .ok (.invokevirtual 257, 3) := by decide +kernel
theorem dX5_numberHere_45 : decode cX5_numberHere 45 = .ok (.iload 4, 2) := by decide +kernel
theorem dX5_numberHere_47 : decode cX5_numberHere 47 = .ok (.ireturn, 1) := by decide +kernel
theorem dX5_perhaps_0 : decode cX5_perhaps 0 = .ok (.aload_n 0, 1) := by decide +kernel
theorem dX5_perhaps_1 : decode cX5_perhaps 1 = .ok (.getfield 233, 3) := by decide +kernel
theorem dX5_perhaps_4 : decode cX5_perhaps 4 = .ok (.ifCond .ge 41, 3) := by decide +kernel
theorem dX5_perhaps_7 : decode cX5_perhaps 7 = .ok (.aload_n 0, 1) := by decide +kernel
theorem dX5_perhaps_8 : decode cX5_perhaps 8 = .ok (.lload_n 1, 1) := by decide +kernel
theorem dX5_perhaps_9 : decode cX5_perhaps 9 = .ok (.invokevirtual 238, 3) := by decide +kernel
theorem dX5_perhaps_12 : decode cX5_perhaps 12 = .ok (.ifCond .eq 33, 3) := by decide +kernel
theorem dX5_perhaps_15 : decode cX5_perhaps 15 = .ok (.aload_n 0, 1) := by decide +kernel
theorem dX5_perhaps_16 : decode cX5_perhaps 16 = .ok (.invokevirtual 257, 3) := by decide +kernel
theorem dX5_perhaps_19 : decode cX5_perhaps 19 = .ok (.aload_n 0, 1) := by decide +kernel
theorem dX5_perhaps_20 : decode cX5_perhaps 20 = .ok (.iconst 0, 1) := by decide +kernel
theorem dX5_perhaps_21 : decode cX5_perhaps 21 = .ok (.bipush 99, 2) := by decide +kernel
theorem dX5_perhaps_23 : decode cX5_perhaps 23 = .ok (.iconst (-1), 1) := by decide +kernel
theorem dX5_perhaps_24 : decode cX5_perhaps 24 = .ok (.invokevirtual 260, 3) := by decide +kernel
theorem dX5_perhaps_27 : decode cX5_perhaps 27 = .ok (.istore 5, 2) := by decide +kernel
theorem dX5_perhaps_29 : decode cX5_perhaps 29 = .ok (.aload_n 0, 1) := by decide +kernel
theorem dX5_perhaps_30 : decode cX5_perhaps 30 = .ok (.getfield 233, 3) := by decide +kernel
theorem dX5_perhaps_33 : decode cX5_perhaps 33 = .ok (.ifCond .ge 12, 3) := by decide +kernel
theorem dX5_perhaps_36 : decode cX5_perhaps 36 = .ok (.aload_n 0, 1) := by decide +kernel
theorem dX5_perhaps_37 : decode cX5_perhaps 37 = .ok (.iload_n 3, 1) := by decide +kernel
theorem dX5_perhaps_38 : decode cX5_perhaps 38 = .ok (.iload 4, 2) := by decide +kernel
theorem dX5_perhaps_40 : decode cX5_perhaps 40 = .ok (.iload 5, 2) := by decide +kernel
theorem dX5_perhaps_42 : decode cX5_perhaps 42 = .ok (.invokevirtual 125, 3) := by decide +kernel
theorem dX5_perhaps_45 : decode cX5_perhaps 45 = .ok (.return_, 1) := by decide +kernel
theorem dX5_potterHere_0 : decode cX5_potterHere 0 = .ok (.aload_n 0, 1) := by decide +kernel
theorem dX5_potterHere_1 : decode cX5_potterHere 1 = .ok (.getfield 7, 3) := by decide +kernel
theorem dX5_potterHere_4 : decode cX5_potterHere 4 = .ok (.iconst 0, 1) := by decide +kernel
theorem dX5_potterHere_5 : decode cX5_potterHere 5 = .ok (.iaload, 1) := by decide +kernel
theorem dX5_potterHere_6 : decode cX5_potterHere 6 = .ok (.bipush 8, 2) := by decide +kernel
theorem dX5_potterHere_8 : decode cX5_potterHere 8 = .ok (.if_icmp .ne 8, 3) := by decide +kernel
theorem dX5_potterHere_11 : decode cX5_potterHere 11 = .ok (.aload_n 0, 1) := by decide +kernel
theorem dX5_potterHere_12 : decode cX5_potterHere 12 = .ok (.invokevirtual 254, 3) := by decide +kernel
theorem dX5_potterHere_15 : decode cX5_potterHere 15 = .ok (.return_, 1) := by decide +kernel
theorem dX5_potterHere_16 : decode cX5_potterHere 16 = .ok (.aload_n 0, 1) := by decide +kernel
theorem dX5_potterHere_17 : decode cX5_potterHere 17 = .ok (.invokevirtual 257, 3) := by decide +kernel
theorem dX5_potterHere_20 : decode cX5_potterHere 20 = .ok (.aload_n 0, 1) := by decide +kernel
theorem dX5_potterHere_21 : decode cX5_potterHere 21 = .ok (.iload_n 1, 1) := by decide +kernel
theorem dX5_potterHere_22 : decode cX5_potterHere 22 = .ok (.bipush 30, 2) := by decide +kernel
theorem dX5_potterHere_24 : decode cX5_potterHere 24 = .ok (.invokevirtual 132, 3) := by decide +kernel
theorem dX5_potterHere_27 : decode cX5_potterHere 27 = .ok (.istore_n 2, 1) := by decide +kernel
theorem dX5_potterHere_28 : decode cX5_potterHere 28 = .ok (.aload_n 0, 1) := by decide +kernel
theorem dX5_potterHere_29 : decode cX5_potterHere 29 = .ok (.ldc2_w 263, 3) := by decide +kernel
theorem dX5_potterHere_32 : decode cX5_potterHere 32 = .ok (.iload_n 2, 1) := by decide +kernel
theorem dX5_potterHere_33 : decode cX5_potterHere 33 = .ok (.iconst 1, 1) := by decide +kernel
theorem dX5_potterHere_34 : decode cX5_potterHere 34 = .ok (.invokevirtual 265, 3) := by decide +kernel
theorem dX5_potterHere_37 : decode cX5_potterHere 37 = .ok (.aload_n 0, 1) := by decide +kernel
theorem dX5_potterHere_38 : decode cX5_potterHere 38 = .ok (.ldc2_w 269, 3) := by decide +kernel
theorem dX5_potterHere_41 : decode cX5_potterHere 41 = .ok (.iload_n 2, 1) := by decide +kernel
theorem dX5_potterHere_42 : decode cX5_potterHere 42 = .ok (.iconst 2, 1) := by decide +kernel
theorem dX5_potterHere_43 : decode cX5_potterHere 43 = .ok (.invokevirtual 265, 3) := by decide +kernel
theorem dX5_potterHere_46 : decode cX5_potterHere 46 = .ok (.aload_n 0, 1) := by decide +kernel
theorem dX5_potterHere_47 : decode cX5_potterHere 47 = .ok (.ldc2_w 271, 3) := by decide +kernel
theorem dX5_potterHere_50 : decode cX5_potterHere 50 = .ok (.iload_n 2, 1) := by decide +kernel
theorem dX5_potterHere_51 : decode cX5_potterHere 51 = .ok (.iconst 3, 1) := by decide +kernel
theorem dX5_potterHere_52 : decode cX5_potterHere 52 = .ok (.invokevirtual 265, 3) := by decide +kernel
theorem dX5_potterHere_55 : decode cX5_potterHere 55 = .ok (.return_, 1) := by decide +kernel
theorem dX5_riftHere_0 : decode cX5_riftHere 0 = .ok (.aload_n 0, 1) := by decide +kernel
theorem dX5_riftHere_1 : decode cX5_riftHere 1 = .ok (.invokevirtual 257, 3) := by decide +kernel
theorem dX5_riftHere_4 : decode cX5_riftHere 4 = .ok (.aload_n 0, 1) := by decide +kernel
theorem dX5_riftHere_5 : decode cX5_riftHere 5 = .ok (.iconst 0, 1) := by decide +kernel
theorem dX5_riftHere_6 : decode cX5_riftHere 6 = .ok (.aload_n 0, 1) := by decide +kernel
theorem dX5_riftHere_7 : decode cX5_riftHere 7 = .ok (.getfield 7, 3) := by decide +kernel
theorem dX5_riftHere_10 : decode cX5_riftHere 10 = .ok (.iconst 0, 1) := by decide +kernel
theorem dX5_riftHere_11 : decode cX5_riftHere 11 = .ok (.iaload, 1) := by decide +kernel
theorem dX5_riftHere_12 : decode cX5_riftHere 12 = .ok (.iconst 1, 1) := by decide +kernel
theorem dX5_riftHere_13 : decode cX5_riftHere 13 = .ok (.isub, 1) := by decide +kernel
theorem dX5_riftHere_14 : decode cX5_riftHere 14 = .ok (.iconst (-1), 1) := by decide +kernel
theorem dX5_riftHere_15 : decode cX5_riftHere 15 = .ok (.invokevirtual 260, 3) := by decide +kernel
theorem dX5_riftHere_18 : decode cX5_riftHere 18 = .ok (.istore_n 1, 1) := by decide +kernel
theorem dX5_riftHere_19 : decode cX5_riftHere 19 = .ok (.aload_n 0, 1) := by decide +kernel
theorem dX5_riftHere_20 : decode cX5_riftHere 20 = .ok (.getfield 233, 3) := by decide +kernel
theorem dX5_riftHere_23 : decode cX5_riftHere 23 = .ok (.ifCond .ge 20, 3) := by decide +kernel
theorem dX5_riftHere_26 : decode cX5_riftHere 26 = .ok (.aload_n 0, 1) := by decide +kernel
theorem dX5_riftHere_27 : decode cX5_riftHere 27 = .ok (.iconst 0, 1) := by decide +kernel
theorem dX5_riftHere_28 : decode cX5_riftHere 28 = .ok (.aload_n 0, 1) := by decide +kernel
theorem dX5_riftHere_29 : decode cX5_riftHere 29 = .ok (.getfield 7, 3) := by decide +kernel
theorem dX5_riftHere_32 : decode cX5_riftHere 32 = .ok (.iconst 0, 1) := by decide +kernel
theorem dX5_riftHere_33 : decode cX5_riftHere 33 = .ok (.iaload, 1) := by decide +kernel
theorem dX5_riftHere_34 : decode cX5_riftHere 34 = .ok (.iconst 1, 1) := by decide +kernel
theorem dX5_riftHere_35 : decode cX5_riftHere 35 = .ok (.isub, 1) := by decide +kernel
theorem dX5_riftHere_36 : decode cX5_riftHere 36 = .ok (.iload_n 1, 1) := by decide +kernel
theorem dX5_riftHere_37 : decode cX5_riftHere 37 = .ok (.invokevirtual 260, 3) := by decide +kernel
theorem dX5_riftHere_40 : decode cX5_riftHere 40 = .ok (.goto 4, 3) := by decide +kernel
theorem dX5_riftHere_43 : decode cX5_riftHere 43 = .ok (.iconst 0, 1) := by decide +kernel
theorem dX5_riftHere_44 : decode cX5_riftHere 44 = .ok (.istore_n 2, 1) := by decide +kernel
theorem dX5_riftHere_45 : decode cX5_riftHere 45 = .ok (.aload_n 0, 1) := by decide +kernel
theorem dX5_riftHere_46 : decode cX5_riftHere 46 = .ok (.getfield 233, 3) := by decide +kernel
theorem dX5_riftHere_49 : decode cX5_riftHere 49 = .ok (.ifCond .ge 14, 3) := by decide +kernel
theorem dX5_riftHere_52 : decode cX5_riftHere 52 = .ok (.aload_n 0, 1) := by decide +kernel
theorem dX5_riftHere_53 : decode cX5_riftHere 53 = .ok (.iconst 0, 1) := by decide +kernel
theorem dX5_riftHere_54 : decode cX5_riftHere 54 = .ok (.bipush 99, 2) := by decide +kernel
theorem dX5_riftHere_56 : decode cX5_riftHere 56 = .ok (.iconst (-1), 1) := by decide +kernel
theorem dX5_riftHere_57 : decode cX5_riftHere 57 = .ok (.invokevirtual 260, 3) := by decide +kernel
theorem dX5_riftHere_60 : decode cX5_riftHere 60 = .ok (.goto 4, 3) := by decide +kernel
theorem dX5_riftHere_63 : decode cX5_riftHere 63 = .ok (.iconst 0, 1) := by decide +kernel
theorem dX5_riftHere_64 : decode cX5_riftHere 64 = .ok (.istore_n 3, 1) := by decide +kernel
theorem dX5_riftHere_65 : decode cX5_riftHere 65 = .ok (.aload_n 0, 1) := by decide +kernel
theorem dX5_riftHere_66 : decode cX5_riftHere 66 = .ok (.getfield 233, 3) := by decide +kernel
theorem dX5_riftHere_69 : decode cX5_riftHere 69 = .ok (.ifCond .ge 14, 3) := by decide +kernel
theorem dX5_riftHere_72 : decode cX5_riftHere 72 = .ok (.aload_n 0, 1) := by decide +kernel
theorem dX5_riftHere_73 : decode cX5_riftHere 73 = .ok (.getfield 7, 3) := by decide +kernel
theorem dX5_riftHere_76 : decode cX5_riftHere 76 = .ok (.iload_n 1, 1) := by decide +kernel
theorem dX5_riftHere_77 : decode cX5_riftHere 77 = .ok (.iload_n 2, 1) := by decide +kernel
theorem dX5_riftHere_78 : decode cX5_riftHere 78 = .ok (.invokestatic 58, 3) := by decide +kernel
theorem dX5_riftHere_81 : decode cX5_riftHere 81 = .ok (.iload_n 3, 1) := by decide +kernel
theorem dX5_riftHere_82 : decode cX5_riftHere 82 = .ok (.iastore, 1) := by decide +kernel
theorem dX5_riftHere_83 : decode cX5_riftHere 83 = .ok (.return_, 1) := by decide +kernel
theorem dX5_pairHere_0 : decode cX5_pairHere 0 = .ok (.aload_n 0, 1) := by decide +kernel
theorem dX5_pairHere_1 : decode cX5_pairHere 1 = .ok (.invokevirtual 257, 3) := by decide +kernel
theorem dX5_pairHere_4 : decode cX5_pairHere 4 = .ok (.aload_n 0, 1) := by decide +kernel
theorem dX5_pairHere_5 : decode cX5_pairHere 5 = .ok (.iconst 0, 1) := by decide +kernel
theorem dX5_pairHere_6 : decode cX5_pairHere 6 = .ok (.iconst 5, 1) := by decide +kernel
theorem dX5_pairHere_7 : decode cX5_pairHere 7 = .ok (.iconst (-1), 1) := by decide +kernel
theorem dX5_pairHere_8 : decode cX5_pairHere 8 = .ok (.invokevirtual 260, 3) := by decide +kernel
theorem dX5_pairHere_11 : decode cX5_pairHere 11 = .ok (.istore_n 1, 1) := by decide +kernel
theorem dX5_pairHere_12 : decode cX5_pairHere 12 = .ok (.aload_n 0, 1) := by decide +kernel
theorem dX5_pairHere_13 : decode cX5_pairHere 13 = .ok (.getfield 233, 3) := by decide +kernel
theorem dX5_pairHere_16 : decode cX5_pairHere 16 = .ok (.ifCond .ge 14, 3) := by decide +kernel
theorem dX5_pairHere_19 : decode cX5_pairHere 19 = .ok (.aload_n 0, 1) := by decide +kernel
theorem dX5_pairHere_20 : decode cX5_pairHere 20 = .ok (.iconst 0, 1) := by decide +kernel
theorem dX5_pairHere_21 : decode cX5_pairHere 21 = .ok (.bipush 7, 2) := by decide +kernel
theorem dX5_pairHere_23 : decode cX5_pairHere 23 = .ok (.iconst (-1), 1) := by decide +kernel
theorem dX5_pairHere_24 : decode cX5_pairHere 24 = .ok (.invokevirtual 260, 3) := by decide +kernel
theorem dX5_pairHere_27 : decode cX5_pairHere 27 = .ok (.goto 4, 3) := by decide +kernel
theorem dX5_pairHere_30 : decode cX5_pairHere 30 = .ok (.iconst 0, 1) := by decide +kernel
theorem dX5_pairHere_31 : decode cX5_pairHere 31 = .ok (.istore_n 2, 1) := by decide +kernel
theorem dX5_pairHere_32 : decode cX5_pairHere 32 = .ok (.aload_n 0, 1) := by decide +kernel
theorem dX5_pairHere_33 : decode cX5_pairHere 33 = .ok (.getfield 233, 3) := by decide +kernel
theorem dX5_pairHere_36 : decode cX5_pairHere 36 = .ok (.ifCond .ge 14, 3) := by decide +kernel
theorem dX5_pairHere_39 : decode cX5_pairHere 39 = .ok (.aload_n 0, 1) := by decide +kernel
theorem dX5_pairHere_40 : decode cX5_pairHere 40 = .ok (.iconst 0, 1) := by decide +kernel
theorem dX5_pairHere_41 : decode cX5_pairHere 41 = .ok (.bipush 7, 2) := by decide +kernel
theorem dX5_pairHere_43 : decode cX5_pairHere 43 = .ok (.iconst (-1), 1) := by decide +kernel
theorem dX5_pairHere_44 : decode cX5_pairHere 44 = .ok (.invokevirtual 260, 3) := by decide +kernel
theorem dX5_pairHere_47 : decode cX5_pairHere 47 = .ok (.goto 4, 3) := by decide +kernel
theorem dX5_pairHere_50 : decode cX5_pairHere 50 = .ok (.iconst 0, 1) := by decide +kernel
theorem dX5_pairHere_51 : decode cX5_pairHere 51 = .ok (.istore_n 3, 1) := by decide +kernel
theorem dX5_pairHere_52 : decode cX5_pairHere 52 = .ok (.aload_n 0, 1) := by decide +kernel
theorem dX5_pairHere_53 : decode cX5_pairHere 53 = .ok (.getfield 233, 3) := by decide +kernel
theorem dX5_pairHere_56 : decode cX5_pairHere 56 = .ok (.ifCond .ge 18, 3) := by decide +kernel
theorem dX5_pairHere_59 : decode cX5_pairHere 59 = .ok (.aload_n 0, 1) := by decide +kernel
theorem dX5_pairHere_60 : decode cX5_pairHere 60 = .ok (.getfield 7, 3) := by decide +kernel
theorem dX5_pairHere_63 : decode cX5_pairHere 63 = .ok (.bipush 7, 2) := by decide +kernel
theorem dX5_pairHere_65 : decode cX5_pairHere 65 = .ok (.iload_n 1, 1) := by decide +kernel
theorem dX5_pairHere_66 : decode cX5_pairHere 66 = .ok (.iadd, 1) := by decide +kernel
theorem dX5_pairHere_67 : decode cX5_pairHere 67 = .ok (.bipush 10, 2) := by decide +kernel
theorem dX5_pairHere_69 : decode cX5_pairHere 69 = .ok (.iload_n 2, 1) := by decide +kernel
theorem dX5_pairHere_70 : decode cX5_pairHere 70 = .ok (.imul, 1) := by decide +kernel
theorem dX5_pairHere_71 : decode cX5_pairHere 71 = .ok (.iload_n 3, 1) := by decide +kernel
theorem dX5_pairHere_72 : decode cX5_pairHere 72 = .ok (.iadd, 1) := by decide +kernel
theorem dX5_pairHere_73 : decode cX5_pairHere 73 = .ok (.iastore, 1) := by decide +kernel
theorem dX5_pairHere_74 : decode cX5_pairHere 74 = .ok (.return_, 1) := by decide +kernel
theorem dX5_item_0 : decode cX5_item 0 = .ok (.aload_n 0, 1) := by decide +kernel
theorem dX5_item_1 : decode cX5_item 1 = .ok (.invokevirtual 273, 3) := by decide +kernel
theorem dX5_item_4 : decode cX5_item 4 = .ok (.istore_n 1, 1) := by decide +kernel
theorem dX5_item_5 : decode cX5_item 5 = .ok (.iload_n 1, 1) := by decide +kernel
theorem dX5_item_6 : decode cX5_item 6 = .ok (.ifCond .lt 11, 3) := by decide +kernel
theorem dX5_item_9 : decode cX5_item 9 = .ok (.aload_n 0, 1) := by decide +kernel
theorem dX5_item_10 : decode cX5_item 10 = .ok (.iload_n 1, 1) := by decide +kernel
theorem dX5_item_11 : decode cX5_item 11 = .ok (.invokevirtual 276, 3) := by decide +kernel
theorem dX5_item_14 : decode cX5_item 14 = .ok (.goto 72, 3) := by decide +kernel
theorem dX5_item_17 : decode cX5_item 17 = .ok (.aload_n 0, 1) := by decide +kernel
theorem dX5_item_18 : decode cX5_item 18 = .ok (.ldc2_w 279, 3) := by decide +kernel
theorem dX5_item_21 : decode cX5_item 21 = .ok (.invokevirtual 238, 3) := by decide +kernel
theorem dX5_item_24 : decode cX5_item 24 = .ok (.ifCond .eq 10, 3) := by decide +kernel
theorem dX5_item_27 : decode cX5_item 27 = .ok (.aload_n 0, 1) := by decide +kernel
theorem dX5_item_28 : decode cX5_item 28 = .ok (.invokevirtual 281, 3) := by decide +kernel
theorem dX5_item_31 : decode cX5_item 31 = .ok (.goto 55, 3) := by decide +kernel
theorem dX5_item_34 : decode cX5_item 34 = .ok (.aload_n 0, 1) := by decide +kernel
theorem dX5_item_35 : decode cX5_item 35 = .ok (.ldc2_w 284, 3) := by decide +kernel
theorem dX5_item_38 : decode cX5_item 38 = .ok (.invokevirtual 238, 3) := by decide +kernel
theorem dX5_item_41 : decode cX5_item 41 = .ok (.ifCond .eq 10, 3) := by decide +kernel
theorem dX5_item_44 : decode cX5_item 44 = .ok (.aload_n 0, 1) := by decide +kernel
theorem dX5_item_45 : decode cX5_item 45 = .ok (.invokevirtual 286, 3) := by decide +kernel
theorem dX5_item_48 : decode cX5_item 48 = .ok (.goto 38, 3) := by decide +kernel
theorem dX5_item_51 : decode cX5_item 51 = .ok (.aload_n 0, 1) := by decide +kernel
theorem dX5_item_52 : decode cX5_item 52 = .ok (.ldc2_w 289, 3) := by decide +kernel
theorem dX5_item_55 : decode cX5_item 55 = .ok (.invokevirtual 238, 3) := by decide +kernel
theorem dX5_item_58 : decode cX5_item 58 = .ok (.ifCond .eq 24, 3) := by decide +kernel
theorem dX5_item_61 : decode cX5_item 61 = .ok (.aload_n 0, 1) := by decide +kernel
theorem dX5_item_62 : decode cX5_item 62 = .ok (.invokevirtual 257, 3) := by decide +kernel
theorem dX5_item_65 : decode cX5_item 65 = .ok (.aload_n 0, 1) := by decide +kernel
theorem dX5_item_66 : decode cX5_item 66 = .ok (.getfield 7, 3) := by decide +kernel
theorem dX5_item_69 : decode cX5_item 69 = .ok (.iconst 3, 1) := by decide +kernel
theorem dX5_item_70 : decode cX5_item 70 = .ok (.aload_n 0, 1) := by decide +kernel
theorem dX5_item_71 : decode cX5_item 71 = .ok (.iconst 1, 1) := by decide +kernel
theorem dX5_item_72 : decode cX5_item 72 = .ok (.bipush 20, 2) := by decide +kernel
theorem dX5_item_74 : decode cX5_item 74 = .ok (.iconst (-1), 1) := by decide +kernel
theorem dX5_item_75 : decode cX5_item 75 = .ok (.invokevirtual 260, 3) := by decide +kernel
theorem dX5_item_78 : decode cX5_item 78 = .ok (.iastore, 1) := by decide +kernel
theorem dX5_item_79 : decode cX5_item 79 = .ok (.goto 7, 3) := by decide +kernel
theorem dX5_item_82 : decode cX5_item 82 = .ok (.aload_n 0, 1) := by decide +kernel
theorem dX5_item_83 : decode cX5_item 83 = .ok (.invokevirtual 254, 3) := by decide +kernel
theorem dX5_item_86 : decode cX5_item 86 = .ok (.return_, 1) := by decide +kernel
theorem dX5_items_0 : decode cX5_items 0 = .ok (.aload_n 0, 1) := by decide +kernel
theorem dX5_items_1 : decode cX5_items 1 = .ok (.iconst 0, 1) := by decide +kernel
theorem dX5_items_2 : decode cX5_items 2 = .ok (.putfield 201, 3) := by decide +kernel
theorem dX5_items_5 : decode cX5_items 5 = .ok (.aload_n 0, 1) := by decide +kernel
theorem dX5_items_6 : decode cX5_items 6 = .ok (.iconst (-1), 1) := by decide +kernel
theorem dX5_items_7 : decode cX5_items 7 = .ok (.putfield 233, 3) := by decide +kernel
theorem dX5_items_10 : decode cX5_items 10 = .ok (.aload_n 0, 1) := by decide +kernel
theorem dX5_items_11 : decode cX5_items 11 = .ok (.invokevirtual 257, 3) := by decide +kernel
theorem dX5_items_14 : decode cX5_items 14 = .ok (.aload_n 0, 1) := by decide +kernel
theorem dX5_items_15 : decode cX5_items 15 = .ok (.invokevirtual 291, 3) := by decide +kernel
theorem dX5_items_18 : decode cX5_items 18 = .ok (.iconst 1, 1) := by decide +kernel
theorem dX5_items_19 : decode cX5_items 19 = .ok (.istore_n 1, 1) := by decide +kernel
theorem dX5_items_20 : decode cX5_items 20 = .ok (.aload_n 0, 1) := by decide +kernel
theorem dX5_items_21 : decode cX5_items 21 = .ok (.getfield 233, 3) := by decide +kernel
theorem dX5_items_24 : decode cX5_items 24 = .ok (.ifCond .ge 25, 3) := by decide +kernel
theorem dX5_items_27 : decode cX5_items 27 = .ok (.aload_n 0, 1) := by decide +kernel
theorem dX5_items_28 : decode cX5_items 28 = .ok (.getfield 214, 3) := by decide +kernel
theorem dX5_items_31 : decode cX5_items 31 = .ok (.iconst 3, 1) := by decide +kernel
theorem dX5_items_32 : decode cX5_items 32 = .ok (.if_icmp .ne 17, 3) := by decide +kernel
theorem dX5_items_35 : decode cX5_items 35 = .ok (.aload_n 0, 1) := by decide +kernel
theorem dX5_items_36 : decode cX5_items 36 = .ok (.invokevirtual 257, 3) := by decide +kernel
theorem dX5_items_39 : decode cX5_items 39 = .ok (.aload_n 0, 1) := by decide +kernel
theorem dX5_items_40 : decode cX5_items 40 = .ok (.invokevirtual 291, 3) := by decide +kernel
theorem dX5_items_43 : decode cX5_items 43 = .ok (.iinc 1 1, 3) := by decide +kernel
theorem dX5_items_46 : decode cX5_items 46 = .ok (.goto (-26), 3) := by decide +kernel
theorem dX5_items_49 : decode cX5_items 49 = .ok (.aload_n 0, 1) := by decide +kernel
theorem dX5_items_50 : decode cX5_items 50 = .ok (.getfield 233, 3) := by decide +kernel
theorem dX5_items_53 : decode cX5_items 53 = .ok (.ifCond .ge 14, 3) := by decide +kernel
theorem dX5_items_56 : decode cX5_items 56 = .ok (.aload_n 0, 1) := by decide +kernel
theorem dX5_items_57 : decode cX5_items 57 = .ok (.getfield 214, 3) := by decide +kernel
theorem dX5_items_60 : decode cX5_items 60 = .ok (.ifCond .eq 7, 3) := by decide +kernel
theorem dX5_items_63 : decode cX5_items 63 = .ok (.aload_n 0, 1) := by decide +kernel
theorem dX5_items_64 : decode cX5_items 64 = .ok (.invokevirtual 254, 3) := by decide +kernel
theorem dX5_items_67 : decode cX5_items 67 = .ok (.iload_n 1, 1) := by decide +kernel
theorem dX5_items_68 : decode cX5_items 68 = .ok (.ireturn, 1) := by decide +kernel
theorem dX5_text_0 : decode cX5_text 0 = .ok (.aload_n 0, 1) := by decide +kernel
theorem dX5_text_1 : decode cX5_text 1 = .ok (.getfield 7, 3) := by decide +kernel
theorem dX5_text_4 : decode cX5_text 4 = .ok (.aload_n 0, 1) := by decide +kernel
theorem dX5_text_5 : decode cX5_text 5 = .ok (.getfield 13, 3) := by decide +kernel
theorem dX5_text_8 : decode cX5_text 8 = .ok (.invokestatic 153, 3) := by decide +kernel
theorem dX5_text_11 : decode cX5_text 11 = .ok (.aload_n 0, 1) := by decide +kernel
theorem dX5_text_12 : decode cX5_text 12 = .ok (.invokevirtual 294, 3) := by decide +kernel
theorem dX5_text_15 : decode cX5_text 15 = .ok (.istore_n 1, 1) := by decide +kernel
theorem dX5_text_16 : decode cX5_text 16 = .ok (.aload_n 0, 1) := by decide +kernel
theorem dX5_text_17 : decode cX5_text 17 = .ok (.iconst 0, 1) := by decide +kernel
theorem dX5_text_18 : decode cX5_text 18 = .ok (.putfield 197, 3) := by decide +kernel
theorem dX5_text_21 : decode cX5_text 21 = .ok (.aload_n 0, 1) := by decide +kernel
theorem dX5_text_22 : decode cX5_text 22 = .ok (.getfield 233, 3) := by decide +kernel
theorem dX5_text_25 : decode cX5_text 25 = .ok (.ifCond .lt 21, 3) := by decide +kernel
theorem dX5_text_28 : decode cX5_text 28 = .ok (.aload_n 0, 1) := by decide +kernel
theorem dX5_text_29 : decode cX5_text 29 = .ok (.getfield 13, 3) := by decide +kernel
theorem dX5_text_32 : decode cX5_text 32 = .ok (.aload_n 0, 1) := by decide +kernel
theorem dX5_text_33 : decode cX5_text 33 = .ok (.getfield 7, 3) := by decide +kernel
theorem dX5_text_36 : decode cX5_text 36 = .ok (.invokestatic 153, 3) := by decide +kernel
theorem dX5_text_39 : decode cX5_text 39 = .ok (.iconst (-1), 1) := by decide +kernel
theorem dX5_text_40 : decode cX5_text 40 = .ok (.aload_n 0, 1) := by decide +kernel
theorem dX5_text_41 : decode cX5_text 41 = .ok (.getfield 233, 3) := by decide +kernel
theorem dX5_text_44 : decode cX5_text 44 = .ok (.isub, 1) := by decide +kernel
theorem dX5_text_45 : decode cX5_text 45 = .ok (.ireturn, 1) := by decide +kernel
theorem dX5_text_46 : decode cX5_text 46 = .ok (.iload_n 1, 1) := by decide +kernel
theorem dX5_text_47 : decode cX5_text 47 = .ok (.ireturn, 1) := by decide +kernel
theorem dX5_hold_0 : decode cX5_hold 0 = .ok (.iload_n 1, 1) := by decide +kernel
theorem dX5_hold_1 : decode cX5_hold 1 = .ok (.i2l, 1) := by decide +kernel
theorem dX5_hold_2 : decode cX5_hold 2 = .ok (.lconst 0, 1) := by decide +kernel
theorem dX5_hold_3 : decode cX5_hold 3 = .ok (.ldc2_w 135, 3) := by decide +kernel
theorem dX5_hold_6 : decode cX5_hold 6 = .ok (.invokestatic 42, 3) := by decide +kernel
theorem dX5_hold_9 : decode cX5_hold 9 = .ok (.ifCond .eq 23, 3) := by decide +kernel
theorem dX5_hold_12 : decode cX5_hold 12 = .ok (.iload_n 2, 1) := by decide +kernel
theorem dX5_hold_13 : decode cX5_hold 13 = .ok (.i2l, 1) := by decide +kernel
theorem dX5_hold_14 : decode cX5_hold 14 = .ok (.ldc2_w 297, 3) := by decide +kernel
theorem dX5_hold_17 : decode cX5_hold 17 = .ok (.aload_n 0, 1) := by decide +kernel
theorem dX5_hold_18 : decode cX5_hold 18 = .ok (.getfield 7, 3) := by decide +kernel
theorem dX5_hold_21 : decode cX5_hold 21 = .ok (.iconst 0, 1) := by decide +kernel
theorem dX5_hold_22 : decode cX5_hold 22 = .ok (.iaload, 1) := by decide +kernel
theorem dX5_hold_23 : decode cX5_hold 23 = .ok (.iconst 1, 1) := by decide +kernel
theorem dX5_hold_24 : decode cX5_hold 24 = .ok (.isub, 1) := by decide +kernel
theorem dX5_hold_25 : decode cX5_hold 25 = .ok (.i2l, 1) := by decide +kernel
theorem dX5_hold_26 : decode cX5_hold 26 = .ok (.invokestatic 42, 3) := by decide +kernel
theorem dX5_hold_29 : decode cX5_hold 29 = .ok (.ifCond .ne 9, 3) := by decide +kernel
theorem dX5_hold_32 : decode cX5_hold 32 = .ok (.aload_n 0, 1) := by decide +kernel
theorem dX5_hold_33 : decode cX5_hold 33 = .ok (.iconst 0, 1) := by decide +kernel
theorem dX5_hold_34 : decode cX5_hold 34 = .ok (.invokevirtual 118, 3) := by decide +kernel
theorem dX5_hold_37 : decode cX5_hold 37 = .ok (.ireturn, 1) := by decide +kernel
theorem dX5_hold_38 : decode cX5_hold 38 = .ok (.aload_n 0, 1) := by decide +kernel
theorem dX5_hold_39 : decode cX5_hold 39 = .ok (.getfield 7, 3) := by decide +kernel
theorem dX5_hold_42 : decode cX5_hold 42 = .ok (.bipush 125, 2) := by decide +kernel
theorem dX5_hold_44 : decode cX5_hold 44 = .ok (.iload_n 1, 1) := by decide +kernel
theorem dX5_hold_45 : decode cX5_hold 45 = .ok (.iadd, 1) := by decide +kernel
theorem dX5_hold_46 : decode cX5_hold 46 = .ok (.iload_n 2, 1) := by decide +kernel
theorem dX5_hold_47 : decode cX5_hold 47 = .ok (.iconst 1, 1) := by decide +kernel
theorem dX5_hold_48 : decode cX5_hold 48 = .ok (.iadd, 1) := by decide +kernel
theorem dX5_hold_49 : decode cX5_hold 49 = .ok (.iastore, 1) := by decide +kernel
theorem dX5_hold_50 : decode cX5_hold 50 = .ok (.iconst 1, 1) := by decide +kernel
theorem dX5_hold_51 : decode cX5_hold 51 = .ok (.ireturn, 1) := by decide +kernel
theorem dX5_above_0 : decode cX5_above 0 = .ok (.iload_n 0, 1) := by decide +kernel
theorem dX5_above_1 : decode cX5_above 1 = .ok (.iconst 3, 1) := by decide +kernel
theorem dX5_above_2 : decode cX5_above 2 = .ok (.if_icmp .ne 7, 3) := by decide +kernel
theorem dX5_above_5 : decode cX5_above 5 = .ok (.iconst 1, 1) := by decide +kernel
theorem dX5_above_6 : decode cX5_above 6 = .ok (.goto 23, 3) := by decide +kernel
theorem dX5_above_9 : decode cX5_above 9 = .ok (.iload_n 0, 1) := by decide +kernel
theorem dX5_above_10 : decode cX5_above 10 = .ok (.iconst 4, 1) := by decide +kernel
theorem dX5_above_11 : decode cX5_above 11 = .ok (.if_icmp .ne 7, 3) := by decide +kernel
theorem dX5_above_14 : decode cX5_above 14 = .ok (.iconst 3, 1) := by decide +kernel
theorem dX5_above_15 : decode cX5_above 15 = .ok (.goto 14, 3) := by decide +kernel
theorem dX5_above_18 : decode cX5_above 18 = .ok (.iload_n 0, 1) := by decide +kernel
theorem dX5_above_19 : decode cX5_above 19 = .ok (.bipush 6, 2) := by decide +kernel
theorem dX5_above_21 : decode cX5_above 21 = .ok (.if_icmp .ne 7, 3) := by decide +kernel
theorem dX5_above_24 : decode cX5_above 24 = .ok (.iconst 2, 1) := by decide +kernel
theorem dX5_above_25 : decode cX5_above 25 = .ok (.goto 4, 3) := by decide +kernel
theorem dX5_above_28 : decode cX5_above 28 = .ok (.iconst 0, 1) := by decide +kernel
theorem dX5_above_29 : decode cX5_above 29 = .ok (.ireturn, 1) := by decide +kernel
theorem dX5_as_0 : decode cX5_as 0 = .ok (.iload_n 1, 1) := by decide +kernel
theorem dX5_as_1 : decode cX5_as 1 = .ok (.i2l, 1) := by decide +kernel
theorem dX5_as_2 : decode cX5_as 2 = .ok (.lconst 0, 1) := by decide +kernel
theorem dX5_as_3 : decode cX5_as 3 = .ok (.ldc2_w 135, 3) := by decide +kernel
theorem dX5_as_6 : decode cX5_as 6 = .ok (.invokestatic 42, 3) := by decide +kernel
theorem dX5_as_9 : decode cX5_as 9 = .ok (.ifCond .eq 15, 3) := by decide +kernel
theorem dX5_as_12 : decode cX5_as 12 = .ok (.iload_n 2, 1) := by decide +kernel
theorem dX5_as_13 : decode cX5_as 13 = .ok (.i2l, 1) := by decide +kernel
theorem dX5_as_14 : decode cX5_as 14 = .ok (.lconst 0, 1) := by decide +kernel
theorem dX5_as_15 : decode cX5_as 15 = .ok (.ldc2_w 128, 3) := by decide +kernel
theorem dX5_as_18 : decode cX5_as 18 = .ok (.invokestatic 42, 3) := by decide +kernel
theorem dX5_as_21 : decode cX5_as 21 = .ok (.ifCond .ne 9, 3) := by decide +kernel
theorem dX5_as_24 : decode cX5_as 24 = .ok (.aload_n 0, 1) := by decide +kernel
theorem dX5_as_25 : decode cX5_as 25 = .ok (.iconst 0, 1) := by decide +kernel
theorem dX5_as_26 : decode cX5_as 26 = .ok (.invokevirtual 118, 3) := by decide +kernel
theorem dX5_as_29 : decode cX5_as 29 = .ok (.ireturn, 1) := by decide +kernel
theorem dX5_as_30 : decode cX5_as 30 = .ok (.aload_n 0, 1) := by decide +kernel
theorem dX5_as_31 : decode cX5_as 31 = .ok (.getfield 7, 3) := by decide +kernel
theorem dX5_as_34 : decode cX5_as 34 = .ok (.bipush 125, 2) := by decide +kernel
theorem dX5_as_36 : decode cX5_as 36 = .ok (.iload_n 1, 1) := by decide +kernel
theorem dX5_as_37 : decode cX5_as 37 = .ok (.iadd, 1) := by decide +kernel
theorem dX5_as_38 : decode cX5_as 38 = .ok (.iaload, 1) := by decide +kernel
theorem dX5_as_39 : decode cX5_as 39 = .ok (.ifCond .ne 9, 3) := by decide +kernel
theorem dX5_as_42 : decode cX5_as 42 = .ok (.aload_n 0, 1) := by decide +kernel
theorem dX5_as_43 : decode cX5_as 43 = .ok (.iconst 5, 1) := by decide +kernel
theorem dX5_as_44 : decode cX5_as 44 = .ok (.invokevirtual 118, 3) := by decide +kernel
theorem dX5_as_47 : decode cX5_as 47 = .ok (.ireturn, 1) := by decide +kernel
theorem dX5_as_48 : decode cX5_as 48 = .ok (.aload_n 0, 1) := by decide +kernel
theorem dX5_as_49 : decode cX5_as 49 = .ok (.getfield 7, 3) := by decide +kernel
theorem dX5_as_52 : decode cX5_as 52 = .ok (.bipush 125, 2) := by decide +kernel
theorem dX5_as_54 : decode cX5_as 54 = .ok (.iload_n 1, 1) := by decide +kernel
theorem dX5_as_55 : decode cX5_as 55 = .ok (.iadd, 1) := by decide +kernel
theorem dX5_as_56 : decode cX5_as 56 = .ok (.iaload, 1) := by decide +kernel
theorem dX5_as_57 : decode cX5_as 57 = .ok (.iconst 1, 1) := by decide +kernel
theorem dX5_as_58 : decode cX5_as 58 = .ok (.isub, 1) := by decide +kernel
theorem dX5_as_59 : decode cX5_as 59 = .ok (.istore_n 3, 1) := by decide +kernel
theorem dX5_as_60 : decode cX5_as 60 = .ok (.aload_n 0, 1) := by decide +kernel
theorem dX5_as_61 : decode cX5_as 61 = .ok (.iload_n 3, 1) := by decide +kernel
theorem dX5_as_62 : decode cX5_as 62 = .ok (.iconst 0, 1) := by decide +kernel
theorem dX5_as_63 : decode cX5_as 63 = .ok (.invokevirtual 54, 3) := by decide +kernel
theorem dX5_as_66 : decode cX5_as 66 = .ok (.istore 4, 2) := by decide +kernel
theorem dX5_as_68 : decode cX5_as 68 = .ok (.iload_n 2, 1) := by decide +kernel
theorem dX5_as_69 : decode cX5_as 69 = .ok (.ifCond .eq 30, 3) := by decide +kernel
theorem dX5_as_72 : decode cX5_as 72 = .ok (.iload_n 2, 1) := by decide +kernel
theorem dX5_as_73 : decode cX5_as 73 = .ok (.iload 4, 2) := by decide +kernel
theorem dX5_as_75 : decode cX5_as 75 = .ok (.if_icmp .eq 24, 3) := by decide +kernel
theorem dX5_as_78 : decode cX5_as 78 = .ok (.iload_n 2, 1) := by decide +kernel
theorem dX5_as_79 : decode cX5_as 79 = .ok (.iload 4, 2) := by decide +kernel
theorem dX5_as_81 : decode cX5_as 81 = .ok (.invokestatic 299, 3) := by decide +kernel
theorem dX5_as_84 : decode cX5_as 84 = .ok (.if_icmp .eq 15, 3) := by decide +kernel
theorem dX5_as_87 : decode cX5_as 87 = .ok (.iload_n 2, 1) := by decide +kernel
theorem dX5_as_88 : decode cX5_as 88 = .ok (.iload 4, 2) := by decide +kernel
theorem dX5_as_90 : decode cX5_as 90 = .ok (.invokestatic 299, 3) := by decide +kernel
theorem dX5_as_93 : decode cX5_as 93 = .ok (.invokestatic 299, 3) := by decide +kernel
theorem dX5_as_96 : decode cX5_as 96 = .ok (.if_icmp .ne 7, 3) := by decide +kernel
theorem dX5_as_99 : decode cX5_as 99 = .ok (.iload_n 3, 1) := by decide +kernel
theorem dX5_as_100 : decode cX5_as 100 = .ok (.goto 8, 3) := by decide +kernel
theorem dX5_as_103 : decode cX5_as 103 = .ok (.aload_n 0, 1) := by decide +kernel
theorem dX5_as_104 : decode cX5_as 104 = .ok (.iconst 2, 1) := by decide +kernel
theorem dX5_as_105 : decode cX5_as 105 = .ok (.invokevirtual 118, 3) := by decide +kernel
theorem dX5_as_108 : decode cX5_as 108 = .ok (.ireturn, 1) := by decide +kernel
theorem dX5_isSheet_0 : decode cX5_isSheet 0 = .ok (.iload_n 0, 1) := by decide +kernel
theorem dX5_isSheet_1 : decode cX5_isSheet 1 = .ok (.i2l, 1) := by decide +kernel
theorem dX5_isSheet_2 : decode cX5_isSheet 2 = .ok (.lconst 0, 1) := by decide +kernel
theorem dX5_isSheet_3 : decode cX5_isSheet 3 = .ok (.ldc2_w 140, 3) := by decide +kernel
theorem dX5_isSheet_6 : decode cX5_isSheet 6 = .ok (.invokestatic 42, 3) := by decide +kernel
theorem dX5_isSheet_9 : decode cX5_isSheet 9 = .ok (.ireturn, 1) := by decide +kernel
theorem dX5_sheet_0 : decode cX5_sheet 0 = .ok (.iload_n 1, 1) := by decide +kernel
theorem dX5_sheet_1 : decode cX5_sheet 1 = .ok (.invokestatic 302, 3) := by decide +kernel
theorem dX5_sheet_4 : decode cX5_sheet 4 = .ok (.ifCond .eq 25, 3) := by decide +kernel
theorem dX5_sheet_7 : decode cX5_sheet 7 = .ok (.iload_n 2, 1) := by decide +kernel
theorem dX5_sheet_8 : decode cX5_sheet 8 = .ok (.ifCond .eq 27, 3) := by decide +kernel
theorem dX5_sheet_11 : decode cX5_sheet 11 = .ok (.iload_n 2, 1) := by decide +kernel
theorem dX5_sheet_12 : decode cX5_sheet 12 = .ok (.bipush 8, 2) := by decide +kernel
theorem dX5_sheet_14 : decode cX5_sheet 14 = .ok (.if_icmp .eq 21, 3) := by decide +kernel
theorem dX5_sheet_17 : decode cX5_sheet 17 = .ok (.iload_n 2, 1) := by decide +kernel
theorem dX5_sheet_18 : decode cX5_sheet 18 = .ok (.bipush 16, 2) := by decide +kernel
theorem dX5_sheet_20 : decode cX5_sheet 20 = .ok (.if_icmp .eq 15, 3) := by decide +kernel
theorem dX5_sheet_23 : decode cX5_sheet 23 = .ok (.iload_n 2, 1) := by decide +kernel
theorem dX5_sheet_24 : decode cX5_sheet 24 = .ok (.bipush 32, 2) := by decide +kernel
theorem dX5_sheet_26 : decode cX5_sheet 26 = .ok (.if_icmp .eq 9, 3) := by decide +kernel
theorem dX5_sheet_29 : decode cX5_sheet 29 = .ok (.aload_n 0, 1) := by decide +kernel
theorem dX5_sheet_30 : decode cX5_sheet 30 = .ok (.iconst 0, 1) := by decide +kernel
theorem dX5_sheet_31 : decode cX5_sheet 31 = .ok (.invokevirtual 118, 3) := by decide +kernel
theorem dX5_sheet_34 : decode cX5_sheet 34 = .ok (.ireturn, 1) := by decide +kernel
theorem dX5_sheet_35 : decode cX5_sheet 35 = .ok (.iload_n 3, 1) := by decide +kernel
theorem dX5_sheet_36 : decode cX5_sheet 36 = .ok (.ifCond .ge 10, 3) := by decide +kernel
theorem dX5_sheet_39 : decode cX5_sheet 39 = .ok (.aload_n 0, 1) := by decide +kernel
theorem dX5_sheet_40 : decode cX5_sheet 40 = .ok (.bipush 6, 2) := by decide +kernel
theorem dX5_sheet_42 : decode cX5_sheet 42 = .ok (.invokevirtual 118, 3) := by decide +kernel
theorem dX5_sheet_45 : decode cX5_sheet 45 = .ok (.ireturn, 1) := by decide +kernel
theorem dX5_sheet_46 : decode cX5_sheet 46 = .ok (.iload_n 3, 1) := by decide +kernel
theorem dX5_sheet_47 : decode cX5_sheet 47 = .ok (.bipush 40, 2) := by decide +kernel
theorem dX5_sheet_49 : decode cX5_sheet 49 = .ok (.if_icmp .le 9, 3) := by decide +kernel
theorem dX5_sheet_52 : decode cX5_sheet 52 = .ok (.aload_n 0, 1) := by decide +kernel
theorem dX5_sheet_53 : decode cX5_sheet 53 = .ok (.iconst 0, 1) := by decide +kernel
theorem dX5_sheet_54 : decode cX5_sheet 54 = .ok (.invokevirtual 118, 3) := by decide +kernel
theorem dX5_sheet_57 : decode cX5_sheet 57 = .ok (.ireturn, 1) := by decide +kernel
theorem dX5_sheet_58 : decode cX5_sheet 58 = .ok (.aload_n 0, 1) := by decide +kernel
theorem dX5_sheet_59 : decode cX5_sheet 59 = .ok (.getfield 29, 3) := by decide +kernel
theorem dX5_sheet_62 : decode cX5_sheet 62 = .ok (.iload_n 1, 1) := by decide +kernel
theorem dX5_sheet_63 : decode cX5_sheet 63 = .ok (.iload_n 2, 1) := by decide +kernel
theorem dX5_sheet_64 : decode cX5_sheet 64 = .ok (.iastore, 1) := by decide +kernel
theorem dX5_sheet_65 : decode cX5_sheet 65 = .ok (.aload_n 0, 1) := by decide +kernel
theorem dX5_sheet_66 : decode cX5_sheet 66 = .ok (.getfield 32, 3) := by decide +kernel
theorem dX5_sheet_69 : decode cX5_sheet 69 = .ok (.iload_n 1, 1) := by decide +kernel
theorem dX5_sheet_70 : decode cX5_sheet 70 = .ok (.iload_n 2, 1) := by decide +kernel
theorem dX5_sheet_71 : decode cX5_sheet 71 = .ok (.ifCond .ne 7, 3) := by decide +kernel
theorem dX5_sheet_74 : decode cX5_sheet 74 = .ok (.iconst 0, 1) := by decide +kernel
theorem dX5_sheet_75 : decode cX5_sheet 75 = .ok (.goto 4, 3) := by decide +kernel
theorem dX5_sheet_78 : decode cX5_sheet 78 = .ok (.iload_n 3, 1) := by decide +kernel
theorem dX5_sheet_79 : decode cX5_sheet 79 = .ok (.iastore, 1) := by decide +kernel
theorem dX5_sheet_80 : decode cX5_sheet 80 = .ok (.iconst 0, 1) := by decide +kernel
theorem dX5_sheet_81 : decode cX5_sheet 81 = .ok (.istore 4, 2) := by decide +kernel
theorem dX5_sheet_83 : decode cX5_sheet 83 = .ok (.iload 4, 2) := by decide +kernel
theorem dX5_sheet_85 : decode cX5_sheet 85 = .ok (.bipush 40, 2) := by decide +kernel
theorem dX5_sheet_87 : decode cX5_sheet 87 = .ok (.if_icmp .ge 22, 3) := by decide +kernel
theorem dX5_sheet_90 : decode cX5_sheet 90 = .ok (.aload_n 0, 1) := by decide +kernel
theorem dX5_sheet_91 : decode cX5_sheet 91 = .ok (.getfield 35, 3) := by decide +kernel
theorem dX5_sheet_94 : decode cX5_sheet 94 = .ok (.bipush 40, 2) := by decide +kernel
theorem dX5_sheet_96 : decode cX5_sheet 96 = .ok (.iload_n 1, 1) := by decide +kernel
theorem dX5_sheet_97 : decode cX5_sheet 97 = .ok (.imul, 1) := by decide +kernel
theorem dX5_sheet_98 : decode cX5_sheet 98 = .ok (.iload 4, 2) := by decide +kernel
theorem dX5_sheet_100 : decode cX5_sheet 100 = .ok (.iadd, 1) := by decide +kernel
theorem dX5_sheet_101 : decode cX5_sheet 101 = .ok (.iconst 0, 1) := by decide +kernel
theorem dX5_sheet_102 : decode cX5_sheet 102 = .ok (.iastore, 1) := by decide +kernel
theorem dX5_sheet_103 : decode cX5_sheet 103 = .ok (.iinc 4 1, 3) := by decide +kernel
theorem dX5_sheet_106 : decode cX5_sheet 106 = .ok (.goto (-23), 3) := by decide +kernel
theorem dX5_sheet_109 : decode cX5_sheet 109 = .ok (.aload_n 0, 1) := by decide +kernel
theorem dX5_sheet_110 : decode cX5_sheet 110 = .ok (.getfield 32, 3) := by decide +kernel
theorem dX5_sheet_113 : decode cX5_sheet 113 = .ok (.iload_n 1, 1) := by decide +kernel
theorem dX5_sheet_114 : decode cX5_sheet 114 = .ok (.iaload, 1) := by decide +kernel
theorem dX5_sheet_115 : decode cX5_sheet 115 = .ok (.ireturn, 1) := by decide +kernel
theorem dX5_whyNone_0 : decode cX5_whyNone 0 = .ok (.iload_n 1, 1) := by decide +kernel
theorem dX5_whyNone_1 : decode cX5_whyNone 1 = .ok (.invokestatic 302, 3) := by decide +kernel
theorem dX5_whyNone_4 : decode cX5_whyNone 4 = .ok (.ifCond .ne 7, 3) := by decide +kernel
theorem dX5_whyNone_7 : decode cX5_whyNone 7 = .ok (.iconst 0, 1) := by decide +kernel
theorem dX5_whyNone_8 : decode cX5_whyNone 8 = .ok (.goto 17, 3) := by decide +kernel
theorem dX5_whyNone_11 : decode cX5_whyNone 11 = .ok (.aload_n 0, 1) := by decide +kernel
theorem dX5_whyNone_12 : decode cX5_whyNone 12 = .ok (.getfield 29, 3) := by decide +kernel
theorem dX5_whyNone_15 : decode cX5_whyNone 15 = .ok (.iload_n 1, 1) := by decide +kernel
theorem dX5_whyNone_16 : decode cX5_whyNone 16 = .ok (.iaload, 1) := by decide +kernel
theorem dX5_whyNone_17 : decode cX5_whyNone 17 = .ok (.ifCond .ne 7, 3) := by decide +kernel
theorem dX5_whyNone_20 : decode cX5_whyNone 20 = .ok (.iconst 5, 1) := by decide +kernel
theorem dX5_whyNone_21 : decode cX5_whyNone 21 = .ok (.goto 4, 3) := by decide +kernel
theorem dX5_whyNone_24 : decode cX5_whyNone 24 = .ok (.iconst (-1), 1) := by decide +kernel
theorem dX5_whyNone_25 : decode cX5_whyNone 25 = .ok (.ireturn, 1) := by decide +kernel
theorem dX5_write_0 : decode cX5_write 0 = .ok (.aload_n 0, 1) := by decide +kernel
theorem dX5_write_1 : decode cX5_write 1 = .ok (.iload_n 1, 1) := by decide +kernel
theorem dX5_write_2 : decode cX5_write 2 = .ok (.invokevirtual 179, 3) := by decide +kernel
theorem dX5_write_5 : decode cX5_write 5 = .ok (.istore 4, 2) := by decide +kernel
theorem dX5_write_7 : decode cX5_write 7 = .ok (.iload 4, 2) := by decide +kernel
theorem dX5_write_9 : decode cX5_write 9 = .ok (.ifCond .ge 25, 3) := by decide +kernel
theorem dX5_write_12 : decode cX5_write 12 = .ok (.iload_n 2, 1) := by decide +kernel
theorem dX5_write_13 : decode cX5_write 13 = .ok (.i2l, 1) := by decide +kernel
theorem dX5_write_14 : decode cX5_write 14 = .ok (.lconst 0, 1) := by decide +kernel
theorem dX5_write_15 : decode cX5_write 15 = .ok (.aload_n 0, 1) := by decide +kernel
theorem dX5_write_16 : decode cX5_write 16 = .ok (.getfield 32, 3) := by decide +kernel
theorem dX5_write_19 : decode cX5_write 19 = .ok (.iload_n 1, 1) := by decide +kernel
theorem dX5_write_20 : decode cX5_write 20 = .ok (.iaload, 1) := by decide +kernel
theorem dX5_write_21 : decode cX5_write 21 = .ok (.iconst 1, 1) := by decide +kernel
theorem dX5_write_22 : decode cX5_write 22 = .ok (.isub, 1) := by decide +kernel
theorem dX5_write_23 : decode cX5_write 23 = .ok (.i2l, 1) := by decide +kernel
theorem dX5_write_24 : decode cX5_write 24 = .ok (.invokestatic 42, 3) := by decide +kernel
theorem dX5_write_27 : decode cX5_write 27 = .ok (.ifCond .ne 7, 3) := by decide +kernel
theorem dX5_write_30 : decode cX5_write 30 = .ok (.iconst 0, 1) := by decide +kernel
theorem dX5_write_31 : decode cX5_write 31 = .ok (.goto 5, 3) := by decide +kernel
theorem dX5_write_34 : decode cX5_write 34 = .ok (.iload 4, 2) := by decide +kernel
theorem dX5_write_36 : decode cX5_write 36 = .ok (.istore 4, 2) := by decide +kernel
theorem dX5_write_38 : decode cX5_write 38 = .ok (.iload 4, 2) := by decide +kernel
theorem dX5_write_40 : decode cX5_write 40 = .ok (.ifCond .lt 10, 3) := by decide +kernel
theorem dX5_write_43 : decode cX5_write 43 = .ok (.aload_n 0, 1) := by decide +kernel
theorem dX5_write_44 : decode cX5_write 44 = .ok (.iload 4, 2) := by decide +kernel
theorem dX5_write_46 : decode cX5_write 46 = .ok (.invokevirtual 118, 3) := by decide +kernel
theorem dX5_write_49 : decode cX5_write 49 = .ok (.ireturn, 1) := by decide +kernel
theorem dX5_write_50 : decode cX5_write 50 = .ok (.aload_n 0, 1) := by decide +kernel
theorem dX5_write_51 : decode cX5_write 51 = .ok (.getfield 35, 3) := by decide +kernel
theorem dX5_write_54 : decode cX5_write 54 = .ok (.bipush 40, 2) := by decide +kernel
theorem dX5_write_56 : decode cX5_write 56 = .ok (.iload_n 1, 1) := by decide +kernel
theorem dX5_write_57 : decode cX5_write 57 = .ok (.imul, 1) := by decide +kernel
theorem dX5_write_58 : decode cX5_write 58 = .ok (.iload_n 2, 1) := by decide +kernel
theorem dX5_write_59 : decode cX5_write 59 = .ok (.iadd, 1) := by decide +kernel
theorem dX5_write_60 : decode cX5_write 60 = .ok (.aload_n 0, 1) := by decide +kernel
theorem dX5_write_61 : decode cX5_write 61 = .ok (.getfield 29, 3) := by decide +kernel
theorem dX5_write_64 : decode cX5_write 64 = .ok (.iload_n 1, 1) := by decide +kernel
theorem dX5_write_65 : decode cX5_write 65 = .ok (.iaload, 1) := by decide +kernel
theorem dX5_write_66 : decode cX5_write 66 = .ok (.bipush 8, 2) := by decide +kernel
theorem dX5_write_68 : decode cX5_write 68 = .ok (.if_icmp .ne 8, 3) := by decide +kernel
theorem dX5_write_71 : decode cX5_write 71 = .ok (.iload_n 3, 1) := by decide +kernel
theorem dX5_write_72 : decode cX5_write 72 = .ok (.i2b, 1) := by decide +kernel
theorem dX5_write_73 : decode cX5_write 73 = .ok (.goto 20, 3) := by decide +kernel
theorem dX5_write_76 : decode cX5_write 76 = .ok (.aload_n 0, 1) := by decide +kernel
theorem dX5_write_77 : decode cX5_write 77 = .ok (.getfield 29, 3) := by decide +kernel
theorem dX5_write_80 : decode cX5_write 80 = .ok (.iload_n 1, 1) := by decide +kernel
theorem dX5_write_81 : decode cX5_write 81 = .ok (.iaload, 1) := by decide +kernel
theorem dX5_write_82 : decode cX5_write 82 = .ok (.bipush 16, 2) := by decide +kernel
theorem dX5_write_84 : decode cX5_write 84 = .ok (.if_icmp .ne 8, 3) := by decide +kernel
theorem dX5_write_87 : decode cX5_write 87 = .ok (.iload_n 3, 1) := by decide +kernel
theorem dX5_write_88 : decode cX5_write 88 = .ok (.i2s, 1) := by decide +kernel
theorem dX5_write_89 : decode cX5_write 89 = .ok (.goto 4, 3) := by decide +kernel
theorem dX5_write_92 : decode cX5_write 92 = .ok (.iload_n 3, 1) := by decide +kernel
theorem dX5_write_93 : decode cX5_write 93 = .ok (.iastore, 1) := by decide +kernel
theorem dX5_write_94 : decode cX5_write 94 = .ok (.iconst 1, 1) := by decide +kernel
theorem dX5_write_95 : decode cX5_write 95 = .ok (.ireturn, 1) := by decide +kernel
theorem dX5_copy_0 : decode cX5_copy 0 = .ok (.iload_n 1, 1) := by decide +kernel
theorem dX5_copy_1 : decode cX5_copy 1 = .ok (.invokestatic 302, 3) := by decide +kernel
theorem dX5_copy_4 : decode cX5_copy 4 = .ok (.ifCond .eq 10, 3) := by decide +kernel
theorem dX5_copy_7 : decode cX5_copy 7 = .ok (.iload_n 3, 1) := by decide +kernel
theorem dX5_copy_8 : decode cX5_copy 8 = .ok (.invokestatic 302, 3) := by decide +kernel
theorem dX5_copy_11 : decode cX5_copy 11 = .ok (.ifCond .ne 9, 3) := by decide +kernel
theorem dX5_copy_14 : decode cX5_copy 14 = .ok (.aload_n 0, 1) := by decide +kernel
theorem dX5_copy_15 : decode cX5_copy 15 = .ok (.iconst 0, 1) := by decide +kernel
theorem dX5_copy_16 : decode cX5_copy 16 = .ok (.invokevirtual 118, 3) := by decide +kernel
theorem dX5_copy_19 : decode cX5_copy 19 = .ok (.ireturn, 1) := by decide +kernel
theorem dX5_copy_20 : decode cX5_copy 20 = .ok (.aload_n 0, 1) := by decide +kernel
theorem dX5_copy_21 : decode cX5_copy 21 = .ok (.getfield 29, 3) := by decide +kernel
theorem dX5_copy_24 : decode cX5_copy 24 = .ok (.iload_n 1, 1) := by decide +kernel
theorem dX5_copy_25 : decode cX5_copy 25 = .ok (.iaload, 1) := by decide +kernel
theorem dX5_copy_26 : decode cX5_copy 26 = .ok (.ifCond .eq 12, 3) := by decide +kernel
theorem dX5_copy_29 : decode cX5_copy 29 = .ok (.aload_n 0, 1) := by decide +kernel
theorem dX5_copy_30 : decode cX5_copy 30 = .ok (.getfield 29, 3) := by decide +kernel
theorem dX5_copy_33 : decode cX5_copy 33 = .ok (.iload_n 3, 1) := by decide +kernel
theorem dX5_copy_34 : decode cX5_copy 34 = .ok (.iaload, 1) := by decide +kernel
theorem dX5_copy_35 : decode cX5_copy 35 = .ok (.ifCond .ne 9, 3) := by decide +kernel
theorem dX5_copy_38 : decode cX5_copy 38 = .ok (.aload_n 0, 1) := by decide +kernel
theorem dX5_copy_39 : decode cX5_copy 39 = .ok (.iconst 5, 1) := by decide +kernel
theorem dX5_copy_40 : decode cX5_copy 40 = .ok (.invokevirtual 118, 3) := by decide +kernel
theorem dX5_copy_43 : decode cX5_copy 43 = .ok (.ireturn, 1) := by decide +kernel
theorem dX5_copy_44 : decode cX5_copy 44 = .ok (.aload_n 0, 1) := by decide +kernel
theorem dX5_copy_45 : decode cX5_copy 45 = .ok (.getfield 29, 3) := by decide +kernel
theorem dX5_copy_48 : decode cX5_copy 48 = .ok (.iload_n 1, 1) := by decide +kernel
theorem dX5_copy_49 : decode cX5_copy 49 = .ok (.iaload, 1) := by decide +kernel
theorem dX5_copy_50 : decode cX5_copy 50 = .ok (.aload_n 0, 1) := by decide +kernel
theorem dX5_copy_51 : decode cX5_copy 51 = .ok (.getfield 29, 3) := by decide +kernel
theorem dX5_copy_54 : decode cX5_copy 54 = .ok (.iload_n 3, 1) := by decide +kernel
theorem dX5_copy_55 : decode cX5_copy 55 = .ok (.iaload, 1) := by decide +kernel
theorem dX5_copy_56 : decode cX5_copy 56 = .ok (.if_icmp .eq 9, 3) := by decide +kernel
theorem dX5_copy_59 : decode cX5_copy 59 = .ok (.aload_n 0, 1) := by decide +kernel
theorem dX5_copy_60 : decode cX5_copy 60 = .ok (.iconst 2, 1) := by decide +kernel
theorem dX5_copy_61 : decode cX5_copy 61 = .ok (.invokevirtual 118, 3) := by decide +kernel
theorem dX5_copy_64 : decode cX5_copy 64 = .ok (.ireturn, 1) := by decide +kernel
theorem dX5_copy_65 : decode cX5_copy 65 = .ok (.iload_n 2, 1) := by decide +kernel
theorem dX5_copy_66 : decode cX5_copy 66 = .ok (.ifCond .lt 48, 3) := by decide +kernel
theorem dX5_copy_69 : decode cX5_copy 69 = .ok (.iload 4, 2) := by decide +kernel
theorem dX5_copy_71 : decode cX5_copy 71 = .ok (.ifCond .lt 43, 3) := by decide +kernel
theorem dX5_copy_74 : decode cX5_copy 74 = .ok (.iload 5, 2) := by decide +kernel
theorem dX5_copy_76 : decode cX5_copy 76 = .ok (.ifCond .lt 38, 3) := by decide +kernel
theorem dX5_copy_79 : decode cX5_copy 79 = .ok (.iload_n 2, 1) := by decide +kernel
theorem dX5_copy_80 : decode cX5_copy 80 = .ok (.i2l, 1) := by decide +kernel
theorem dX5_copy_81 : decode cX5_copy 81 = .ok (.iload 5, 2) := by decide +kernel
theorem dX5_copy_83 : decode cX5_copy 83 = .ok (.i2l, 1) := by decide +kernel
theorem dX5_copy_84 : decode cX5_copy 84 = .ok (.ladd, 1) := by decide +kernel
theorem dX5_copy_85 : decode cX5_copy 85 = .ok (.aload_n 0, 1) := by decide +kernel
theorem dX5_copy_86 : decode cX5_copy 86 = .ok (.getfield 32, 3) := by decide +kernel
theorem dX5_copy_89 : decode cX5_copy 89 = .ok (.iload_n 1, 1) := by decide +kernel
theorem dX5_copy_90 : decode cX5_copy 90 = .ok (.iaload, 1) := by decide +kernel
theorem dX5_copy_91 : decode cX5_copy 91 = .ok (.i2l, 1) := by decide +kernel
theorem dX5_copy_92 : decode cX5_copy 92 = .ok (.lcmp, 1) := by decide +kernel
theorem dX5_copy_93 : decode cX5_copy 93 = .ok (.ifCond .gt 21, 3) := by decide +kernel
theorem dX5_copy_96 : decode cX5_copy 96 = .ok (.iload 4, 2) := by decide +kernel
theorem dX5_copy_98 : decode cX5_copy 98 = .ok (.i2l, 1) := by decide +kernel
theorem dX5_copy_99 : decode cX5_copy 99 = .ok (.iload 5, 2) := by decide +kernel
theorem dX5_copy_101 : decode cX5_copy 101 = .ok (.i2l, 1) := by decide +kernel
theorem dX5_copy_102 : decode cX5_copy 102 = .ok (.ladd, 1) := by decide +kernel
theorem dX5_copy_103 : decode cX5_copy 103 = .ok (.aload_n 0, 1) := by decide +kernel
theorem dX5_copy_104 : decode cX5_copy 104 = .ok (.getfield 32, 3) := by decide +kernel
theorem dX5_copy_107 : decode cX5_copy 107 = .ok (.iload_n 3, 1) := by decide +kernel
theorem dX5_copy_108 : decode cX5_copy 108 = .ok (.iaload, 1) := by decide +kernel
theorem dX5_copy_109 : decode cX5_copy 109 = .ok (.i2l, 1) := by decide +kernel
theorem dX5_copy_110 : decode cX5_copy 110 = .ok (.lcmp, 1) := by decide +kernel
theorem dX5_copy_111 : decode cX5_copy 111 = .ok (.ifCond .le 9, 3) := by decide +kernel
theorem dX5_copy_114 : decode cX5_copy 114 = .ok (.aload_n 0, 1) := by decide +kernel
theorem dX5_copy_115 : decode cX5_copy 115 = .ok (.iconst 0, 1) := by decide +kernel
theorem dX5_copy_116 : decode cX5_copy 116 = .ok (.invokevirtual 118, 3) := by decide +kernel
theorem dX5_copy_119 : decode cX5_copy 119 = .ok (.ireturn, 1) := by decide +kernel
theorem dX5_copy_120 : decode cX5_copy 120 = .ok (.iconst 0, 1) := by decide +kernel
theorem dX5_copy_121 : decode cX5_copy 121 = .ok (.istore 6, 2) := by decide +kernel
theorem dX5_copy_123 : decode cX5_copy 123 = .ok (.iload 6, 2) := by decide +kernel
theorem dX5_copy_125 : decode cX5_copy 125 = .ok (.iload 5, 2) := by decide +kernel
theorem dX5_copy_127 : decode cX5_copy 127 = .ok (.if_icmp .ge 30, 3) := by decide +kernel
theorem dX5_copy_130 : decode cX5_copy 130 = .ok (.aload_n 0, 1) := by decide +kernel
theorem dX5_copy_131 : decode cX5_copy 131 = .ok (.getfield 38, 3) := by decide +kernel
theorem dX5_copy_134 : decode cX5_copy 134 = .ok (.iload 6, 2) := by decide +kernel
theorem dX5_copy_136 : decode cX5_copy 136 = .ok (.aload_n 0, 1) := by decide +kernel
theorem dX5_copy_137 : decode cX5_copy 137 = .ok (.getfield 35, 3) := by decide +kernel
theorem dX5_copy_140 : decode cX5_copy 140 = .ok (.bipush 40, 2) := by decide +kernel
theorem dX5_copy_142 : decode cX5_copy 142 = .ok (.iload_n 1, 1) := by decide +kernel
theorem dX5_copy_143 : decode cX5_copy 143 = .ok (.imul, 1) := by decide +kernel
theorem dX5_copy_144 : decode cX5_copy 144 = .ok (.iload_n 2, 1) := by decide +kernel
theorem dX5_copy_145 : decode cX5_copy 145 = .ok (.iadd, 1) := by decide +kernel
theorem dX5_copy_146 : decode cX5_copy 146 = .ok (.iload 6, 2) := by decide +kernel
theorem dX5_copy_148 : decode cX5_copy 148 = .ok (.iadd, 1) := by decide +kernel
theorem dX5_copy_149 : decode cX5_copy 149 = .ok (.iaload, 1) := by decide +kernel
theorem dX5_copy_150 : decode cX5_copy 150 = .ok (.iastore, 1) := by decide +kernel
theorem dX5_copy_151 : decode cX5_copy 151 = .ok (.iinc 6 1, 3) := by decide +kernel
theorem dX5_copy_154 : decode cX5_copy 154 = .ok (.goto (-31), 3) := by decide +kernel
theorem dX5_copy_157 : decode cX5_copy 157 = .ok (.iconst 0, 1) := by decide +kernel
theorem dX5_copy_158 : decode cX5_copy 158 = .ok (.istore 6, 2) := by decide +kernel
theorem dX5_copy_160 : decode cX5_copy 160 = .ok (.iload 6, 2) := by decide +kernel
theorem dX5_copy_162 : decode cX5_copy 162 = .ok (.iload 5, 2) := by decide +kernel
theorem dX5_copy_164 : decode cX5_copy 164 = .ok (.if_icmp .ge 31, 3) := by decide +kernel
theorem dX5_copy_167 : decode cX5_copy 167 = .ok (.aload_n 0, 1) := by decide +kernel
theorem dX5_copy_168 : decode cX5_copy 168 = .ok (.getfield 35, 3) := by decide +kernel
theorem dX5_copy_171 : decode cX5_copy 171 = .ok (.bipush 40, 2) := by decide +kernel
theorem dX5_copy_173 : decode cX5_copy 173 = .ok (.iload_n 3, 1) := by decide +kernel
theorem dX5_copy_174 : decode cX5_copy 174 = .ok (.imul, 1) := by decide +kernel
theorem dX5_copy_175 : decode cX5_copy 175 = .ok (.iload 4, 2) := by decide +kernel
theorem dX5_copy_177 : decode cX5_copy 177 = .ok (.iadd, 1) := by decide +kernel
theorem dX5_copy_178 : decode cX5_copy 178 = .ok (.iload 6, 2) := by decide +kernel
theorem dX5_copy_180 : decode cX5_copy 180 = .ok (.iadd, 1) := by decide +kernel
theorem dX5_copy_181 : decode cX5_copy 181 = .ok (.aload_n 0, 1) := by decide +kernel
theorem dX5_copy_182 : decode cX5_copy 182 = .ok (.getfield 38, 3) := by decide +kernel
theorem dX5_copy_185 : decode cX5_copy 185 = .ok (.iload 6, 2) := by decide +kernel
theorem dX5_copy_187 : decode cX5_copy 187 = .ok (.iaload, 1) := by decide +kernel
theorem dX5_copy_188 : decode cX5_copy 188 = .ok (.iastore, 1) := by decide +kernel
theorem dX5_copy_189 : decode cX5_copy 189 = .ok (.iinc 6 1, 3) := by decide +kernel
theorem dX5_copy_192 : decode cX5_copy 192 = .ok (.goto (-32), 3) := by decide +kernel
theorem dX5_copy_195 : decode cX5_copy 195 = .ok (.iload 5, 2) := by decide +kernel
theorem dX5_copy_197 : decode cX5_copy 197 = .ok (.ireturn, 1) := by decide +kernel
theorem dX5_load_0 : decode cX5_load 0 = .ok (.aload_n 0, 1) := by decide +kernel
theorem dX5_load_1 : decode cX5_load 1 = .ok (.iload_n 1, 1) := by decide +kernel
theorem dX5_load_2 : decode cX5_load 2 = .ok (.invokevirtual 179, 3) := by decide +kernel
theorem dX5_load_5 : decode cX5_load 5 = .ok (.istore_n 2, 1) := by decide +kernel
theorem dX5_load_6 : decode cX5_load 6 = .ok (.iload_n 2, 1) := by decide +kernel
theorem dX5_load_7 : decode cX5_load 7 = .ok (.ifCond .lt 9, 3) := by decide +kernel
theorem dX5_load_10 : decode cX5_load 10 = .ok (.aload_n 0, 1) := by decide +kernel
theorem dX5_load_11 : decode cX5_load 11 = .ok (.iload_n 2, 1) := by decide +kernel
theorem dX5_load_12 : decode cX5_load 12 = .ok (.invokevirtual 118, 3) := by decide +kernel
theorem dX5_load_15 : decode cX5_load 15 = .ok (.ireturn, 1) := by decide +kernel
theorem dX5_load_16 : decode cX5_load 16 = .ok (.iconst 0, 1) := by decide +kernel
theorem dX5_load_17 : decode cX5_load 17 = .ok (.istore_n 3, 1) := by decide +kernel
theorem dX5_load_18 : decode cX5_load 18 = .ok (.iload_n 3, 1) := by decide +kernel
theorem dX5_load_19 : decode cX5_load 19 = .ok (.aload_n 0, 1) := by decide +kernel
theorem dX5_load_20 : decode cX5_load 20 = .ok (.getfield 32, 3) := by decide +kernel
theorem dX5_load_23 : decode cX5_load 23 = .ok (.iload_n 1, 1) := by decide +kernel
theorem dX5_load_24 : decode cX5_load 24 = .ok (.iaload, 1) := by decide +kernel
theorem dX5_load_25 : decode cX5_load 25 = .ok (.if_icmp .ge 58, 3) := by decide +kernel
theorem dX5_load_28 : decode cX5_load 28 = .ok (.iload_n 3, 1) := by decide +kernel
theorem dX5_load_29 : decode cX5_load 29 = .ok (.aload_n 0, 1) := by decide +kernel
theorem dX5_load_30 : decode cX5_load 30 = .ok (.getfield 7, 3) := by decide +kernel
theorem dX5_load_33 : decode cX5_load 33 = .ok (.iconst 0, 1) := by decide +kernel
theorem dX5_load_34 : decode cX5_load 34 = .ok (.iaload, 1) := by decide +kernel
theorem dX5_load_35 : decode cX5_load 35 = .ok (.if_icmp .ge 48, 3) := by decide +kernel
theorem dX5_load_38 : decode cX5_load 38 = .ok (.aload_n 0, 1) := by decide +kernel
theorem dX5_load_39 : decode cX5_load 39 = .ok (.getfield 35, 3) := by decide +kernel
theorem dX5_load_42 : decode cX5_load 42 = .ok (.bipush 40, 2) := by decide +kernel
theorem dX5_load_44 : decode cX5_load 44 = .ok (.iload_n 1, 1) := by decide +kernel
theorem dX5_load_45 : decode cX5_load 45 = .ok (.imul, 1) := by decide +kernel
theorem dX5_load_46 : decode cX5_load 46 = .ok (.iload_n 3, 1) := by decide +kernel
theorem dX5_load_47 : decode cX5_load 47 = .ok (.iadd, 1) := by decide +kernel
theorem dX5_load_48 : decode cX5_load 48 = .ok (.iaload, 1) := by decide +kernel
theorem dX5_load_49 : decode cX5_load 49 = .ok (.i2l, 1) := by decide +kernel
theorem dX5_load_50 : decode cX5_load 50 = .ok (.lconst 0, 1) := by decide +kernel
theorem dX5_load_51 : decode cX5_load 51 = .ok (.ldc2_w 130, 3) := by decide +kernel
theorem dX5_load_54 : decode cX5_load 54 = .ok (.invokestatic 42, 3) := by decide +kernel
theorem dX5_load_57 : decode cX5_load 57 = .ok (.ifCond .eq 26, 3) := by decide +kernel
theorem dX5_load_60 : decode cX5_load 60 = .ok (.aload_n 0, 1) := by decide +kernel
theorem dX5_load_61 : decode cX5_load 61 = .ok (.iload_n 3, 1) := by decide +kernel
theorem dX5_load_62 : decode cX5_load 62 = .ok (.iconst 2, 1) := by decide +kernel
theorem dX5_load_63 : decode cX5_load 63 = .ok (.aload_n 0, 1) := by decide +kernel
theorem dX5_load_64 : decode cX5_load 64 = .ok (.getfield 35, 3) := by decide +kernel
theorem dX5_load_67 : decode cX5_load 67 = .ok (.bipush 40, 2) := by decide +kernel
theorem dX5_load_69 : decode cX5_load 69 = .ok (.iload_n 1, 1) := by decide +kernel
theorem dX5_load_70 : decode cX5_load 70 = .ok (.imul, 1) := by decide +kernel
theorem dX5_load_71 : decode cX5_load 71 = .ok (.iload_n 3, 1) := by decide +kernel
theorem dX5_load_72 : decode cX5_load 72 = .ok (.iadd, 1) := by decide +kernel
theorem dX5_load_73 : decode cX5_load 73 = .ok (.iaload, 1) := by decide +kernel
theorem dX5_load_74 : decode cX5_load 74 = .ok (.invokevirtual 125, 3) := by decide +kernel
theorem dX5_load_77 : decode cX5_load 77 = .ok (.iinc 3 1, 3) := by decide +kernel
theorem dX5_load_80 : decode cX5_load 80 = .ok (.goto (-62), 3) := by decide +kernel
theorem dX5_load_83 : decode cX5_load 83 = .ok (.iload_n 3, 1) := by decide +kernel
theorem dX5_load_84 : decode cX5_load 84 = .ok (.ireturn, 1) := by decide +kernel
theorem dX5_judge_0 : decode cX5_judge 0 = .ok (.aload_n 0, 1) := by decide +kernel
theorem dX5_judge_1 : decode cX5_judge 1 = .ok (.iload_n 1, 1) := by decide +kernel
theorem dX5_judge_2 : decode cX5_judge 2 = .ok (.invokevirtual 179, 3) := by decide +kernel
theorem dX5_judge_5 : decode cX5_judge 5 = .ok (.istore_n 2, 1) := by decide +kernel
theorem dX5_judge_6 : decode cX5_judge 6 = .ok (.iload_n 2, 1) := by decide +kernel
theorem dX5_judge_7 : decode cX5_judge 7 = .ok (.ifCond .lt 9, 3) := by decide +kernel
theorem dX5_judge_10 : decode cX5_judge 10 = .ok (.aload_n 0, 1) := by decide +kernel
theorem dX5_judge_11 : decode cX5_judge 11 = .ok (.iload_n 2, 1) := by decide +kernel
theorem dX5_judge_12 : decode cX5_judge 12 = .ok (.invokevirtual 118, 3) := by decide +kernel
theorem dX5_judge_15 : decode cX5_judge 15 = .ok (.ireturn, 1) := by decide +kernel
theorem dX5_judge_16 : decode cX5_judge 16 = .ok (.iconst 0, 1) := by decide +kernel
theorem dX5_judge_17 : decode cX5_judge 17 = .ok (.istore_n 3, 1) := by decide +kernel
theorem dX5_judge_18 : decode cX5_judge 18 = .ok (.iload_n 3, 1) := by decide +kernel
theorem dX5_judge_19 : decode cX5_judge 19 = .ok (.aload_n 0, 1) := by decide +kernel
theorem dX5_judge_20 : decode cX5_judge 20 = .ok (.getfield 32, 3) := by decide +kernel
theorem dX5_judge_23 : decode cX5_judge 23 = .ok (.iload_n 1, 1) := by decide +kernel
theorem dX5_judge_24 : decode cX5_judge 24 = .ok (.iaload, 1) := by decide +kernel
theorem dX5_judge_25 : decode cX5_judge 25 = .ok (.if_icmp .ge 41, 3) := by decide +kernel
theorem dX5_judge_28 : decode cX5_judge 28 = .ok (.aload_n 0, 1) := by decide +kernel
theorem dX5_judge_29 : decode cX5_judge 29 = .ok (.iload_n 3, 1) := by decide +kernel
theorem dX5_judge_30 : decode cX5_judge 30 = .ok (.invokevirtual 46, 3) := by decide +kernel
theorem dX5_judge_33 : decode cX5_judge 33 = .ok (.ifCond .eq 23, 3) := by decide +kernel
theorem dX5_judge_36 : decode cX5_judge 36 = .ok (.aload_n 0, 1) := by decide +kernel
theorem dX5_judge_37 : decode cX5_judge 37 = .ok (.getfield 35, 3) := by decide +kernel
theorem dX5_judge_40 : decode cX5_judge 40 = .ok (.bipush 40, 2) := by decide +kernel
theorem dX5_judge_42 : decode cX5_judge 42 = .ok (.iload_n 1, 1) := by decide +kernel
theorem dX5_judge_43 : decode cX5_judge 43 = .ok (.imul, 1) := by decide +kernel
theorem dX5_judge_44 : decode cX5_judge 44 = .ok (.iload_n 3, 1) := by decide +kernel
theorem dX5_judge_45 : decode cX5_judge 45 = .ok (.iadd, 1) := by decide +kernel
theorem dX5_judge_46 : decode cX5_judge 46 = .ok (.iaload, 1) := by decide +kernel
theorem dX5_judge_47 : decode cX5_judge 47 = .ok (.aload_n 0, 1) := by decide +kernel
theorem dX5_judge_48 : decode cX5_judge 48 = .ok (.iload_n 3, 1) := by decide +kernel
theorem dX5_judge_49 : decode cX5_judge 49 = .ok (.iconst 4, 1) := by decide +kernel
theorem dX5_judge_50 : decode cX5_judge 50 = .ok (.invokevirtual 54, 3) := by decide +kernel
theorem dX5_judge_53 : decode cX5_judge 53 = .ok (.if_icmp .eq 7, 3) := by decide +kernel
theorem dX5_judge_56 : decode cX5_judge 56 = .ok (.iconst 1, 1) := by decide +kernel
theorem dX5_judge_57 : decode cX5_judge 57 = .ok (.iload_n 3, 1) := by decide +kernel
theorem dX5_judge_58 : decode cX5_judge 58 = .ok (.iadd, 1) := by decide +kernel
theorem dX5_judge_59 : decode cX5_judge 59 = .ok (.ireturn, 1) := by decide +kernel
theorem dX5_judge_60 : decode cX5_judge 60 = .ok (.iinc 3 1, 3) := by decide +kernel
theorem dX5_judge_63 : decode cX5_judge 63 = .ok (.goto (-45), 3) := by decide +kernel
theorem dX5_judge_66 : decode cX5_judge 66 = .ok (.iconst 0, 1) := by decide +kernel
theorem dX5_judge_67 : decode cX5_judge 67 = .ok (.ireturn, 1) := by decide +kernel
theorem dX5_image_0 : decode cX5_image 0 = .ok (.aload_n 0, 1) := by decide +kernel
theorem dX5_image_1 : decode cX5_image 1 = .ok (.getfield 7, 3) := by decide +kernel
theorem dX5_image_4 : decode cX5_image 4 = .ok (.aload_n 0, 1) := by decide +kernel
theorem dX5_image_5 : decode cX5_image 5 = .ok (.getfield 19, 3) := by decide +kernel
theorem dX5_image_8 : decode cX5_image 8 = .ok (.invokestatic 153, 3) := by decide +kernel
theorem dX5_image_11 : decode cX5_image 11 = .ok (.aload_n 0, 1) := by decide +kernel
theorem dX5_image_12 : decode cX5_image 12 = .ok (.iconst 1, 1) := by decide +kernel
theorem dX5_image_13 : decode cX5_image 13 = .ok (.putfield 305, 3) := by decide +kernel
theorem dX5_image_16 : decode cX5_image 16 = .ok (.iconst 1, 1) := by decide +kernel
theorem dX5_image_17 : decode cX5_image 17 = .ok (.ireturn, 1) := by decide +kernel
theorem dX5_undo_0 : decode cX5_undo 0 = .ok (.aload_n 0, 1) := by decide +kernel
theorem dX5_undo_1 : decode cX5_undo 1 = .ok (.getfield 305, 3) := by decide +kernel
theorem dX5_undo_4 : decode cX5_undo 4 = .ok (.ifCond .ne 9, 3) := by decide +kernel
theorem dX5_undo_7 : decode cX5_undo 7 = .ok (.aload_n 0, 1) := by decide +kernel
theorem dX5_undo_8 : decode cX5_undo 8 = .ok (.iconst 3, 1) := by decide +kernel
theorem dX5_undo_9 : decode cX5_undo 9 = .ok (.invokevirtual 118, 3) := by decide +kernel
theorem dX5_undo_12 : decode cX5_undo 12 = .ok (.ireturn, 1) := by decide +kernel
theorem dX5_undo_13 : decode cX5_undo 13 = .ok (.aload_n 0, 1) := by decide +kernel
theorem dX5_undo_14 : decode cX5_undo 14 = .ok (.getfield 19, 3) := by decide +kernel
theorem dX5_undo_17 : decode cX5_undo 17 = .ok (.aload_n 0, 1) := by decide +kernel
theorem dX5_undo_18 : decode cX5_undo 18 = .ok (.getfield 7, 3) := by decide +kernel
theorem dX5_undo_21 : decode cX5_undo 21 = .ok (.invokestatic 153, 3) := by decide +kernel
theorem dX5_undo_24 : decode cX5_undo 24 = .ok (.aload_n 0, 1) := by decide +kernel
theorem dX5_undo_25 : decode cX5_undo 25 = .ok (.getfield 7, 3) := by decide +kernel
theorem dX5_undo_28 : decode cX5_undo 28 = .ok (.iconst 1, 1) := by decide +kernel
theorem dX5_undo_29 : decode cX5_undo 29 = .ok (.iaload, 1) := by decide +kernel
theorem dX5_undo_30 : decode cX5_undo 30 = .ok (.ireturn, 1) := by decide +kernel
theorem dX5_tear_0 : decode cX5_tear 0 = .ok (.aload_n 0, 1) := by decide +kernel
theorem dX5_tear_1 : decode cX5_tear 1 = .ok (.getfield 305, 3) := by decide +kernel
theorem dX5_tear_4 : decode cX5_tear 4 = .ok (.ifCond .eq 7, 3) := by decide +kernel
theorem dX5_tear_7 : decode cX5_tear 7 = .ok (.iconst 1, 1) := by decide +kernel
theorem dX5_tear_8 : decode cX5_tear 8 = .ok (.goto 4, 3) := by decide +kernel
theorem dX5_tear_11 : decode cX5_tear 11 = .ok (.iconst 0, 1) := by decide +kernel
theorem dX5_tear_12 : decode cX5_tear 12 = .ok (.istore_n 1, 1) := by decide +kernel
theorem dX5_tear_13 : decode cX5_tear 13 = .ok (.aload_n 0, 1) := by decide +kernel
theorem dX5_tear_14 : decode cX5_tear 14 = .ok (.iconst 0, 1) := by decide +kernel
theorem dX5_tear_15 : decode cX5_tear 15 = .ok (.putfield 305, 3) := by decide +kernel
theorem dX5_tear_18 : decode cX5_tear 18 = .ok (.iload_n 1, 1) := by decide +kernel
theorem dX5_tear_19 : decode cX5_tear 19 = .ok (.ireturn, 1) := by decide +kernel
theorem dX5_holding_0 : decode cX5_holding 0 = .ok (.iconst 0, 1) := by decide +kernel
theorem dX5_holding_1 : decode cX5_holding 1 = .ok (.istore_n 1, 1) := by decide +kernel
theorem dX5_holding_2 : decode cX5_holding 2 = .ok (.iconst 0, 1) := by decide +kernel
theorem dX5_holding_3 : decode cX5_holding 3 = .ok (.istore_n 2, 1) := by decide +kernel
theorem dX5_holding_4 : decode cX5_holding 4 = .ok (.iload_n 2, 1) := by decide +kernel
theorem dX5_holding_5 : decode cX5_holding 5 = .ok (.bipush 10, 2) := by decide +kernel
theorem dX5_holding_7 : decode cX5_holding 7 = .ok (.if_icmp .ge 29, 3) := by decide +kernel
theorem dX5_holding_10 : decode cX5_holding 10 = .ok (.iload_n 1, 1) := by decide +kernel
theorem dX5_holding_11 : decode cX5_holding 11 = .ok (.aload_n 0, 1) := by decide +kernel
theorem dX5_holding_12 : decode cX5_holding 12 = .ok (.getfield 7, 3) := by decide +kernel
theorem dX5_holding_15 : decode cX5_holding 15 = .ok (.bipush 125, 2) := by decide +kernel
theorem dX5_holding_17 : decode cX5_holding 17 = .ok (.iload_n 2, 1) := by decide +kernel
theorem dX5_holding_18 : decode cX5_holding 18 = .ok (.iadd, 1) := by decide +kernel
theorem dX5_holding_19 : decode cX5_holding 19 = .ok (.iaload, 1) := by decide +kernel
theorem dX5_holding_20 : decode cX5_holding 20 = .ok (.ifCond .le 7, 3) := by decide +kernel
theorem dX5_holding_23 : decode cX5_holding 23 = .ok (.iconst 1, 1) := by decide +kernel
theorem dX5_holding_24 : decode cX5_holding 24 = .ok (.goto 4, 3) := by decide +kernel
theorem dX5_holding_27 : decode cX5_holding 27 = .ok (.iconst 0, 1) := by decide +kernel
theorem dX5_holding_28 : decode cX5_holding 28 = .ok (.iadd, 1) := by decide +kernel
theorem dX5_holding_29 : decode cX5_holding 29 = .ok (.istore_n 1, 1) := by decide +kernel
theorem dX5_holding_30 : decode cX5_holding 30 = .ok (.iinc 2 1, 3) := by decide +kernel
theorem dX5_holding_33 : decode cX5_holding 33 = .ok (.goto (-29), 3) := by decide +kernel
theorem dX5_holding_36 : decode cX5_holding 36 = .ok (.iload_n 1, 1) := by decide +kernel
theorem dX5_holding_37 : decode cX5_holding 37 = .ok (.ireturn, 1) := by decide +kernel
theorem dX5_count_0 : decode cX5_count 0 = .ok (.iload_n 1, 1) := by decide +kernel
theorem dX5_count_1 : decode cX5_count 1 = .ok (.tableswitch 98 0 7 #[47, 54, 61, 68, 75, 81, 86, 93], 47) := by decide +kernel
theorem dX5_count_48 : decode cX5_count 48 = .ok (.aload_n 0, 1) := by decide +kernel
theorem dX5_count_49 : decode cX5_count 49 = .ok (.getfield 7, 3) := by decide +kernel
theorem dX5_count_52 : decode cX5_count 52 = .ok (.iconst 1, 1) := by decide +kernel
theorem dX5_count_53 : decode cX5_count 53 = .ok (.iaload, 1) := by decide +kernel
theorem dX5_count_54 : decode cX5_count 54 = .ok (.ireturn, 1) := by decide +kernel
theorem dX5_count_55 : decode cX5_count 55 = .ok (.aload_n 0, 1) := by decide +kernel
theorem dX5_count_56 : decode cX5_count 56 = .ok (.getfield 7, 3) := by decide +kernel
theorem dX5_count_59 : decode cX5_count 59 = .ok (.iconst 0, 1) := by decide +kernel
theorem dX5_count_60 : decode cX5_count 60 = .ok (.iaload, 1) := by decide +kernel
theorem dX5_count_61 : decode cX5_count 61 = .ok (.ireturn, 1) := by decide +kernel
theorem dX5_count_62 : decode cX5_count 62 = .ok (.aload_n 0, 1) := by decide +kernel
theorem dX5_count_63 : decode cX5_count 63 = .ok (.getfield 7, 3) := by decide +kernel
theorem dX5_count_66 : decode cX5_count 66 = .ok (.iconst 4, 1) := by decide +kernel
theorem dX5_count_67 : decode cX5_count 67 = .ok (.iaload, 1) := by decide +kernel
theorem dX5_count_68 : decode cX5_count 68 = .ok (.ireturn, 1) := by decide +kernel
theorem dX5_count_69 : decode cX5_count 69 = .ok (.aload_n 0, 1) := by decide +kernel
theorem dX5_count_70 : decode cX5_count 70 = .ok (.getfield 7, 3) := by decide +kernel
theorem dX5_count_73 : decode cX5_count 73 = .ok (.iconst 5, 1) := by decide +kernel
theorem dX5_count_74 : decode cX5_count 74 = .ok (.iaload, 1) := by decide +kernel
theorem dX5_count_75 : decode cX5_count 75 = .ok (.ireturn, 1) := by decide +kernel
theorem dX5_count_76 : decode cX5_count 76 = .ok (.aload_n 0, 1) := by decide +kernel
theorem dX5_count_77 : decode cX5_count 77 = .ok (.iconst 5, 1) := by decide +kernel
theorem dX5_count_78 : decode cX5_count 78 = .ok (.invokevirtual 147, 3) := by decide +kernel
theorem dX5_count_81 : decode cX5_count 81 = .ok (.ireturn, 1) := by decide +kernel
theorem dX5_count_82 : decode cX5_count 82 = .ok (.aload_n 0, 1) := by decide +kernel
theorem dX5_count_83 : decode cX5_count 83 = .ok (.getfield 197, 3) := by decide +kernel
theorem dX5_count_86 : decode cX5_count 86 = .ok (.ireturn, 1) := by decide +kernel
theorem dX5_count_87 : decode cX5_count 87 = .ok (.aload_n 0, 1) := by decide +kernel
theorem dX5_count_88 : decode cX5_count 88 = .ok (.getfield 7, 3) := by decide +kernel
theorem dX5_count_91 : decode cX5_count 91 = .ok (.iconst 2, 1) := by decide +kernel
theorem dX5_count_92 : decode cX5_count 92 = .ok (.iaload, 1) := by decide +kernel
theorem dX5_count_93 : decode cX5_count 93 = .ok (.ireturn, 1) := by decide +kernel
theorem dX5_count_94 : decode cX5_count 94 = .ok (.aload_n 0, 1) := by decide +kernel
theorem dX5_count_95 : decode cX5_count 95 = .ok (.invokevirtual 309, 3) := by decide +kernel
theorem dX5_count_98 : decode cX5_count 98 = .ok (.ireturn, 1) := by decide +kernel
theorem dX5_count_99 : decode cX5_count 99 = .ok (.aload_n 0, 1) := by decide +kernel
theorem dX5_count_100 : decode cX5_count 100 = .ok (.iconst 0, 1) := by decide +kernel
theorem dX5_count_101 : decode cX5_count 101 = .ok (.invokevirtual 118, 3) := by decide +kernel
theorem dX5_count_104 : decode cX5_count 104 = .ok (.ireturn, 1) := by decide +kernel
theorem dX5_status_0 : decode cX5_status 0 = .ok (.iload_n 1, 1) := by decide +kernel
theorem dX5_status_1 : decode cX5_status 1 = .ok (.i2l, 1) := by decide +kernel
theorem dX5_status_2 : decode cX5_status 2 = .ok (.ldc2_w 297, 3) := by decide +kernel
theorem dX5_status_5 : decode cX5_status 5 = .ok (.ldc2_w 128, 3) := by decide +kernel
theorem dX5_status_8 : decode cX5_status 8 = .ok (.invokestatic 42, 3) := by decide +kernel
theorem dX5_status_11 : decode cX5_status 11 = .ok (.ifCond .ne 9, 3) := by decide +kernel
theorem dX5_status_14 : decode cX5_status 14 = .ok (.aload_n 0, 1) := by decide +kernel
theorem dX5_status_15 : decode cX5_status 15 = .ok (.iconst 0, 1) := by decide +kernel
theorem dX5_status_16 : decode cX5_status 16 = .ok (.invokevirtual 118, 3) := by decide +kernel
theorem dX5_status_19 : decode cX5_status 19 = .ok (.ireturn, 1) := by decide +kernel
theorem dX5_status_20 : decode cX5_status 20 = .ok (.iconst 0, 1) := by decide +kernel
theorem dX5_status_21 : decode cX5_status 21 = .ok (.istore_n 2, 1) := by decide +kernel
theorem dX5_status_22 : decode cX5_status 22 = .ok (.iconst 0, 1) := by decide +kernel
theorem dX5_status_23 : decode cX5_status 23 = .ok (.istore_n 3, 1) := by decide +kernel
theorem dX5_status_24 : decode cX5_status 24 = .ok (.iload_n 3, 1) := by decide +kernel
theorem dX5_status_25 : decode cX5_status 25 = .ok (.bipush 7, 2) := by decide +kernel
theorem dX5_status_27 : decode cX5_status 27 = .ok (.if_icmp .ge 18, 3) := by decide +kernel
theorem dX5_status_30 : decode cX5_status 30 = .ok (.iload_n 2, 1) := by decide +kernel
theorem dX5_status_31 : decode cX5_status 31 = .ok (.aload_n 0, 1) := by decide +kernel
theorem dX5_status_32 : decode cX5_status 32 = .ok (.getfield 22, 3) := by decide +kernel
theorem dX5_status_35 : decode cX5_status 35 = .ok (.iload_n 3, 1) := by decide +kernel
theorem dX5_status_36 : decode cX5_status 36 = .ok (.iaload, 1) := by decide +kernel
theorem dX5_status_37 : decode cX5_status 37 = .ok (.iadd, 1) := by decide +kernel
theorem dX5_status_38 : decode cX5_status 38 = .ok (.istore_n 2, 1) := by decide +kernel
theorem dX5_status_39 : decode cX5_status 39 = .ok (.iinc 3 1, 3) := by decide +kernel
theorem dX5_status_42 : decode cX5_status 42 = .ok (.goto (-18), 3) := by decide +kernel
theorem dX5_status_45 : decode cX5_status 45 = .ok (.iload_n 1, 1) := by decide +kernel
theorem dX5_status_46 : decode cX5_status 46 = .ok (.ifCond .ge 7, 3) := by decide +kernel
theorem dX5_status_49 : decode cX5_status 49 = .ok (.iload_n 2, 1) := by decide +kernel
theorem dX5_status_50 : decode cX5_status 50 = .ok (.goto 9, 3) := by decide +kernel
theorem dX5_status_53 : decode cX5_status 53 = .ok (.aload_n 0, 1) := by decide +kernel
theorem dX5_status_54 : decode cX5_status 54 = .ok (.getfield 22, 3) := by decide +kernel
theorem dX5_status_57 : decode cX5_status 57 = .ok (.iload_n 1, 1) := by decide +kernel
theorem dX5_status_58 : decode cX5_status 58 = .ok (.iaload, 1) := by decide +kernel
theorem dX5_status_59 : decode cX5_status 59 = .ok (.ireturn, 1) := by decide +kernel
