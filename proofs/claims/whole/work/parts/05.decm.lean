theorem dX6_init_0 : decode cX6_init 0 = .ok (.aload_n 0, 1) := by decide +kernel
theorem dX6_init_1 : decode cX6_init 1 = .ok (.invokespecial 1, 3) := by decide +kernel
theorem dX6_init_4 : decode cX6_init 4 = .ok (.aload_n 0, 1) := by decide +kernel
theorem dX6_init_5 : decode cX6_init 5 = .ok (.bipush 7, 2) := by decide +kernel
theorem dX6_init_7 : decode cX6_init 7 = .ok (.newarray .int, 2) := by decide +kernel
theorem dX6_init_9 : decode cX6_init 9 = .ok (.putfield 7, 3) := by decide +kernel
theorem dX6_init_12 : decode cX6_init 12 = .ok (.aload_n 0, 1) := by decide +kernel
theorem dX6_init_13 : decode cX6_init 13 = .ok (.bipush 73, 2) := by decide +kernel
theorem dX6_init_15 : decode cX6_init 15 = .ok (.newarray .int, 2) := by decide +kernel
theorem dX6_init_17 : decode cX6_init 17 = .ok (.putfield 13, 3) := by decide +kernel
theorem dX6_init_20 : decode cX6_init 20 = .ok (.aload_n 0, 1) := by decide +kernel
theorem dX6_init_21 : decode cX6_init 21 = .ok (.bipush 73, 2) := by decide +kernel
theorem dX6_init_23 : decode cX6_init 23 = .ok (.newarray .int, 2) := by decide +kernel
theorem dX6_init_25 : decode cX6_init 25 = .ok (.putfield 16, 3) := by decide +kernel
theorem dX6_init_28 : decode cX6_init 28 = .ok (.aload_n 0, 1) := by decide +kernel
theorem dX6_init_29 : decode cX6_init 29 = .ok (.bipush 73, 2) := by decide +kernel
theorem dX6_init_31 : decode cX6_init 31 = .ok (.newarray .int, 2) := by decide +kernel
theorem dX6_init_33 : decode cX6_init 33 = .ok (.putfield 19, 3) := by decide +kernel
theorem dX6_init_36 : decode cX6_init 36 = .ok (.aload_n 0, 1) := by decide +kernel
theorem dX6_init_37 : decode cX6_init 37 = .ok (.bipush 73, 2) := by decide +kernel
theorem dX6_init_39 : decode cX6_init 39 = .ok (.newarray .int, 2) := by decide +kernel
theorem dX6_init_41 : decode cX6_init 41 = .ok (.putfield 22, 3) := by decide +kernel
theorem dX6_init_44 : decode cX6_init 44 = .ok (.aload_n 0, 1) := by decide +kernel
theorem dX6_init_45 : decode cX6_init 45 = .ok (.bipush 6, 2) := by decide +kernel
theorem dX6_init_47 : decode cX6_init 47 = .ok (.newarray .int, 2) := by decide +kernel
theorem dX6_init_49 : decode cX6_init 49 = .ok (.putfield 25, 3) := by decide +kernel
theorem dX6_init_52 : decode cX6_init 52 = .ok (.aload_n 0, 1) := by decide +kernel
theorem dX6_init_53 : decode cX6_init 53 = .ok (.bipush 6, 2) := by decide +kernel
theorem dX6_init_55 : decode cX6_init 55 = .ok (.newarray .int, 2) := by decide +kernel
theorem dX6_init_57 : decode cX6_init 57 = .ok (.putfield 28, 3) := by decide +kernel
theorem dX6_init_60 : decode cX6_init 60 = .ok (.aload_n 0, 1) := by decide +kernel
theorem dX6_init_61 : decode cX6_init 61 = .ok (.bipush 6, 2) := by decide +kernel
theorem dX6_init_63 : decode cX6_init 63 = .ok (.newarray .int, 2) := by decide +kernel
theorem dX6_init_65 : decode cX6_init 65 = .ok (.putfield 31, 3) := by decide +kernel
theorem dX6_init_68 : decode cX6_init 68 = .ok (.aload_n 0, 1) := by decide +kernel
theorem dX6_init_69 : decode cX6_init 69 = .ok (.bipush 6, 2) := by decide +kernel
theorem dX6_init_71 : decode cX6_init 71 = .ok (.newarray .int, 2) := by decide +kernel
theorem dX6_init_73 : decode cX6_init 73 = .ok (.putfield 34, 3) := by decide +kernel
theorem dX6_init_76 : decode cX6_init 76 = .ok (.aload_n 0, 1) := by decide +kernel
theorem dX6_init_77 : decode cX6_init 77 = .ok (.bipush 6, 2) := by decide +kernel
theorem dX6_init_79 : decode cX6_init 79 = .ok (.newarray .int, 2) := by decide +kernel
theorem dX6_init_81 : decode cX6_init 81 = .ok (.putfield 37, 3) := by decide +kernel
theorem dX6_init_84 : decode cX6_init 84 = .ok (.aload_n 0, 1) := by decide +kernel
theorem dX6_init_85 : decode cX6_init 85 = .ok (.bipush 96, 2) := by decide +kernel
theorem dX6_init_87 : decode cX6_init 87 = .ok (.newarray .int, 2) := by decide +kernel
theorem dX6_init_89 : decode cX6_init 89 = .ok (.putfield 40, 3) := by decide +kernel
theorem dX6_init_92 : decode cX6_init 92 = .ok (.aload_n 0, 1) := by decide +kernel
theorem dX6_init_93 : decode cX6_init 93 = .ok (.iconst 3, 1) := by decide +kernel
theorem dX6_init_94 : decode cX6_init 94 = .ok (.newarray .int, 2) := by decide +kernel
theorem dX6_init_96 : decode cX6_init 96 = .ok (.putfield 43, 3) := by decide +kernel
theorem dX6_init_99 : decode cX6_init 99 = .ok (.aload_n 0, 1) := by decide +kernel
theorem dX6_init_100 : decode cX6_init 100 = .ok (.bipush 6, 2) := by decide +kernel
theorem dX6_init_102 : decode cX6_init 102 = .ok (.newarray .int, 2) := by decide +kernel
theorem dX6_init_104 : decode cX6_init 104 = .ok (.putfield 46, 3) := by decide +kernel
theorem dX6_init_107 : decode cX6_init 107 = .ok (.aload_n 0, 1) := by decide +kernel
theorem dX6_init_108 : decode cX6_init 108 = .ok (.getfield 13, 3) := by decide +kernel
theorem dX6_init_111 : decode cX6_init 111 = .ok (.iconst 5, 1) := by decide +kernel
theorem dX6_init_112 : decode cX6_init 112 = .ok (.bipush 6, 2) := by decide +kernel
theorem dX6_init_114 : decode cX6_init 114 = .ok (.iastore, 1) := by decide +kernel
theorem dX6_init_115 : decode cX6_init 115 = .ok (.return_, 1) := by decide +kernel
theorem dX6_refuse_0 : decode cX6_refuse 0 = .ok (.aload_n 0, 1) := by decide +kernel
theorem dX6_refuse_1 : decode cX6_refuse 1 = .ok (.getfield 7, 3) := by decide +kernel
theorem dX6_refuse_4 : decode cX6_refuse 4 = .ok (.iload_n 1, 1) := by decide +kernel
theorem dX6_refuse_5 : decode cX6_refuse 5 = .ok (.ineg, 1) := by decide +kernel
theorem dX6_refuse_6 : decode cX6_refuse 6 = .ok (.dup2, 1) := by decide +kernel
theorem dX6_refuse_7 : decode cX6_refuse 7 = .ok (.iaload, 1) := by decide +kernel
theorem dX6_refuse_8 : decode cX6_refuse 8 = .ok (.iconst 1, 1) := by decide +kernel
theorem dX6_refuse_9 : decode cX6_refuse 9 = .ok (.iadd, 1) := by decide +kernel
theorem dX6_refuse_10 : decode cX6_refuse 10 = .ok (.iastore, 1) := by decide +kernel
theorem dX6_refuse_11 : decode cX6_refuse 11 = .ok (.iload_n 1, 1) := by decide +kernel
theorem dX6_refuse_12 : decode cX6_refuse 12 = .ok (.ireturn, 1) := by decide +kernel
theorem dX6_isIn_0 : decode cX6_isIn 0 = .ok (.iload_n 0, 1) := by decide +kernel
theorem dX6_isIn_1 : decode cX6_isIn 1 = .ok (.ifCond .lt 12, 3) := by decide +kernel
theorem dX6_isIn_4 : decode cX6_isIn 4 = .ok (.iload_n 0, 1) := by decide +kernel
theorem dX6_isIn_5 : decode cX6_isIn 5 = .ok (.iload_n 1, 1) := by decide +kernel
theorem dX6_isIn_6 : decode cX6_isIn 6 = .ok (.if_icmp .ge 7, 3) := by decide +kernel
theorem dX6_isIn_9 : decode cX6_isIn 9 = .ok (.iconst 1, 1) := by decide +kernel
theorem dX6_isIn_10 : decode cX6_isIn 10 = .ok (.goto 4, 3) := by decide +kernel
theorem dX6_isIn_13 : decode cX6_isIn 13 = .ok (.iconst 0, 1) := by decide +kernel
theorem dX6_isIn_14 : decode cX6_isIn 14 = .ok (.ireturn, 1) := by decide +kernel
theorem dX6_within_0 : decode cX6_within 0 = .ok (.iload_n 0, 1) := by decide +kernel
theorem dX6_within_1 : decode cX6_within 1 = .ok (.iload_n 1, 1) := by decide +kernel
theorem dX6_within_2 : decode cX6_within 2 = .ok (.if_icmp .ge 8, 3) := by decide +kernel
theorem dX6_within_5 : decode cX6_within 5 = .ok (.bipush (-4), 2) := by decide +kernel
theorem dX6_within_7 : decode cX6_within 7 = .ok (.goto 14, 3) := by decide +kernel
theorem dX6_within_10 : decode cX6_within 10 = .ok (.iload_n 0, 1) := by decide +kernel
theorem dX6_within_11 : decode cX6_within 11 = .ok (.iload_n 2, 1) := by decide +kernel
theorem dX6_within_12 : decode cX6_within 12 = .ok (.if_icmp .le 8, 3) := by decide +kernel
theorem dX6_within_15 : decode cX6_within 15 = .ok (.bipush (-6), 2) := by decide +kernel
theorem dX6_within_17 : decode cX6_within 17 = .ok (.goto 4, 3) := by decide +kernel
theorem dX6_within_20 : decode cX6_within 20 = .ok (.iconst 0, 1) := by decide +kernel
theorem dX6_within_21 : decode cX6_within 21 = .ok (.ireturn, 1) := by decide +kernel
theorem dX6_lays_0 : decode cX6_lays 0 = .ok (.iconst 0, 1) := by decide +kernel
theorem dX6_lays_1 : decode cX6_lays 1 = .ok (.istore_n 2, 1) := by decide +kernel
theorem dX6_lays_2 : decode cX6_lays 2 = .ok (.iload_n 2, 1) := by decide +kernel
theorem dX6_lays_3 : decode cX6_lays 3 = .ok (.bipush 73, 2) := by decide +kernel
theorem dX6_lays_5 : decode cX6_lays 5 = .ok (.if_icmp .ge 15, 3) := by decide +kernel
theorem dX6_lays_8 : decode cX6_lays 8 = .ok (.aload_n 1, 1) := by decide +kernel
theorem dX6_lays_9 : decode cX6_lays 9 = .ok (.iload_n 2, 1) := by decide +kernel
theorem dX6_lays_10 : decode cX6_lays 10 = .ok (.aload_n 0, 1) := by decide +kernel
theorem dX6_lays_11 : decode cX6_lays 11 = .ok (.iload_n 2, 1) := by decide +kernel
theorem dX6_lays_12 : decode cX6_lays 12 = .ok (.iaload, 1) := by decide +kernel
theorem dX6_lays_13 : decode cX6_lays 13 = .ok (.iastore, 1) := by decide +kernel
theorem dX6_lays_14 : decode cX6_lays 14 = .ok (.iinc 2 1, 3) := by decide +kernel
theorem dX6_lays_17 : decode cX6_lays 17 = .ok (.goto (-15), 3) := by decide +kernel
theorem dX6_lays_20 : decode cX6_lays 20 = .ok (.return_, 1) := by decide +kernel
theorem dX6_begins_0 : decode cX6_begins 0 = .ok (.aload_n 0, 1) := by decide +kernel
theorem dX6_begins_1 : decode cX6_begins 1 = .ok (.getfield 13, 3) := by decide +kernel
theorem dX6_begins_4 : decode cX6_begins 4 = .ok (.aload_n 0, 1) := by decide +kernel
theorem dX6_begins_5 : decode cX6_begins 5 = .ok (.getfield 22, 3) := by decide +kernel
theorem dX6_begins_8 : decode cX6_begins 8 = .ok (.invokestatic 49, 3) := by decide +kernel
theorem dX6_begins_11 : decode cX6_begins 11 = .ok (.return_, 1) := by decide +kernel
theorem dX6_ends_0 : decode cX6_ends 0 = .ok (.aload_n 0, 1) := by decide +kernel
theorem dX6_ends_1 : decode cX6_ends 1 = .ok (.getfield 22, 3) := by decide +kernel
theorem dX6_ends_4 : decode cX6_ends 4 = .ok (.aload_n 0, 1) := by decide +kernel
theorem dX6_ends_5 : decode cX6_ends 5 = .ok (.getfield 13, 3) := by decide +kernel
theorem dX6_ends_8 : decode cX6_ends 8 = .ok (.invokestatic 49, 3) := by decide +kernel
theorem dX6_ends_11 : decode cX6_ends 11 = .ok (.return_, 1) := by decide +kernel
theorem dX6_isHead_0 : decode cX6_isHead 0 = .ok (.iload_n 1, 1) := by decide +kernel
theorem dX6_isHead_1 : decode cX6_isHead 1 = .ok (.aload_n 0, 1) := by decide +kernel
theorem dX6_isHead_2 : decode cX6_isHead 2 = .ok (.getfield 13, 3) := by decide +kernel
theorem dX6_isHead_5 : decode cX6_isHead 5 = .ok (.iconst 3, 1) := by decide +kernel
theorem dX6_isHead_6 : decode cX6_isHead 6 = .ok (.iaload, 1) := by decide +kernel
theorem dX6_isHead_7 : decode cX6_isHead 7 = .ok (.invokestatic 53, 3) := by decide +kernel
theorem dX6_isHead_10 : decode cX6_isHead 10 = .ok (.ireturn, 1) := by decide +kernel
theorem dX6_isSong_0 : decode cX6_isSong 0 = .ok (.iload_n 1, 1) := by decide +kernel
theorem dX6_isSong_1 : decode cX6_isSong 1 = .ok (.aload_n 0, 1) := by decide +kernel
theorem dX6_isSong_2 : decode cX6_isSong 2 = .ok (.getfield 13, 3) := by decide +kernel
theorem dX6_isSong_5 : decode cX6_isSong 5 = .ok (.iconst 2, 1) := by decide +kernel
theorem dX6_isSong_6 : decode cX6_isSong 6 = .ok (.iaload, 1) := by decide +kernel
theorem dX6_isSong_7 : decode cX6_isSong 7 = .ok (.invokestatic 53, 3) := by decide +kernel
theorem dX6_isSong_10 : decode cX6_isSong 10 = .ok (.ireturn, 1) := by decide +kernel
theorem dX6_at_0 : decode cX6_at 0 = .ok (.aload_n 0, 1) := by decide +kernel
theorem dX6_at_1 : decode cX6_at 1 = .ok (.getfield 13, 3) := by decide +kernel
theorem dX6_at_4 : decode cX6_at 4 = .ok (.bipush 37, 2) := by decide +kernel
theorem dX6_at_6 : decode cX6_at 6 = .ok (.bipush 6, 2) := by decide +kernel
theorem dX6_at_8 : decode cX6_at 8 = .ok (.iload_n 1, 1) := by decide +kernel
theorem dX6_at_9 : decode cX6_at 9 = .ok (.imul, 1) := by decide +kernel
theorem dX6_at_10 : decode cX6_at 10 = .ok (.iadd, 1) := by decide +kernel
theorem dX6_at_11 : decode cX6_at 11 = .ok (.iload_n 2, 1) := by decide +kernel
theorem dX6_at_12 : decode cX6_at 12 = .ok (.iadd, 1) := by decide +kernel
theorem dX6_at_13 : decode cX6_at 13 = .ok (.iaload, 1) := by decide +kernel
theorem dX6_at_14 : decode cX6_at 14 = .ok (.ireturn, 1) := by decide +kernel
theorem dX6_puts_0 : decode cX6_puts 0 = .ok (.aload_n 0, 1) := by decide +kernel
theorem dX6_puts_1 : decode cX6_puts 1 = .ok (.getfield 13, 3) := by decide +kernel
theorem dX6_puts_4 : decode cX6_puts 4 = .ok (.bipush 37, 2) := by decide +kernel
theorem dX6_puts_6 : decode cX6_puts 6 = .ok (.bipush 6, 2) := by decide +kernel
theorem dX6_puts_8 : decode cX6_puts 8 = .ok (.iload_n 1, 1) := by decide +kernel
theorem dX6_puts_9 : decode cX6_puts 9 = .ok (.imul, 1) := by decide +kernel
theorem dX6_puts_10 : decode cX6_puts 10 = .ok (.iadd, 1) := by decide +kernel
theorem dX6_puts_11 : decode cX6_puts 11 = .ok (.iload_n 2, 1) := by decide +kernel
theorem dX6_puts_12 : decode cX6_puts 12 = .ok (.iadd, 1) := by decide +kernel
theorem dX6_puts_13 : decode cX6_puts 13 = .ok (.iload_n 3, 1) := by decide +kernel
theorem dX6_puts_14 : decode cX6_puts 14 = .ok (.iastore, 1) := by decide +kernel
theorem dX6_puts_15 : decode cX6_puts 15 = .ok (.return_, 1) := by decide +kernel
theorem dX6_of_0 : decode cX6_of 0 = .ok (.aload_n 0, 1) := by decide +kernel
theorem dX6_of_1 : decode cX6_of 1 = .ok (.getfield 13, 3) := by decide +kernel
theorem dX6_of_4 : decode cX6_of 4 = .ok (.bipush 22, 2) := by decide +kernel
theorem dX6_of_6 : decode cX6_of 6 = .ok (.iconst 3, 1) := by decide +kernel
theorem dX6_of_7 : decode cX6_of 7 = .ok (.iload_n 1, 1) := by decide +kernel
theorem dX6_of_8 : decode cX6_of 8 = .ok (.imul, 1) := by decide +kernel
theorem dX6_of_9 : decode cX6_of 9 = .ok (.iadd, 1) := by decide +kernel
theorem dX6_of_10 : decode cX6_of 10 = .ok (.iload_n 2, 1) := by decide +kernel
theorem dX6_of_11 : decode cX6_of 11 = .ok (.iadd, 1) := by decide +kernel
theorem dX6_of_12 : decode cX6_of 12 = .ok (.iaload, 1) := by decide +kernel
theorem dX6_of_13 : decode cX6_of 13 = .ok (.ireturn, 1) := by decide +kernel
theorem dX6_fresh_0 : decode cX6_fresh 0 = .ok (.iconst 2, 1) := by decide +kernel
theorem dX6_fresh_1 : decode cX6_fresh 1 = .ok (.aload_n 0, 1) := by decide +kernel
theorem dX6_fresh_2 : decode cX6_fresh 2 = .ok (.iload_n 1, 1) := by decide +kernel
theorem dX6_fresh_3 : decode cX6_fresh 3 = .ok (.iconst 1, 1) := by decide +kernel
theorem dX6_fresh_4 : decode cX6_fresh 4 = .ok (.invokevirtual 57, 3) := by decide +kernel
theorem dX6_fresh_7 : decode cX6_fresh 7 = .ok (.imul, 1) := by decide +kernel
theorem dX6_fresh_8 : decode cX6_fresh 8 = .ok (.aload_n 0, 1) := by decide +kernel
theorem dX6_fresh_9 : decode cX6_fresh 9 = .ok (.iload_n 1, 1) := by decide +kernel
theorem dX6_fresh_10 : decode cX6_fresh 10 = .ok (.iconst 2, 1) := by decide +kernel
theorem dX6_fresh_11 : decode cX6_fresh 11 = .ok (.invokevirtual 57, 3) := by decide +kernel
theorem dX6_fresh_14 : decode cX6_fresh 14 = .ok (.iadd, 1) := by decide +kernel
theorem dX6_fresh_15 : decode cX6_fresh 15 = .ok (.istore_n 2, 1) := by decide +kernel
theorem dX6_fresh_16 : decode cX6_fresh 16 = .ok (.aload_n 0, 1) := by decide +kernel
theorem dX6_fresh_17 : decode cX6_fresh 17 = .ok (.iload_n 1, 1) := by decide +kernel
theorem dX6_fresh_18 : decode cX6_fresh 18 = .ok (.iconst 0, 1) := by decide +kernel
theorem dX6_fresh_19 : decode cX6_fresh 19 = .ok (.invokevirtual 57, 3) := by decide +kernel
theorem dX6_fresh_22 : decode cX6_fresh 22 = .ok (.istore_n 3, 1) := by decide +kernel
theorem dX6_fresh_23 : decode cX6_fresh 23 = .ok (.iload_n 3, 1) := by decide +kernel
theorem dX6_fresh_24 : decode cX6_fresh 24 = .ok (.iconst 2, 1) := by decide +kernel
theorem dX6_fresh_25 : decode cX6_fresh 25 = .ok (.if_icmp .ne 9, 3) := by decide +kernel
theorem dX6_fresh_28 : decode cX6_fresh 28 = .ok (.iload_n 2, 1) := by decide +kernel
theorem dX6_fresh_29 : decode cX6_fresh 29 = .ok (.iconst 3, 1) := by decide +kernel
theorem dX6_fresh_30 : decode cX6_fresh 30 = .ok (.iadd, 1) := by decide +kernel
theorem dX6_fresh_31 : decode cX6_fresh 31 = .ok (.goto 17, 3) := by decide +kernel
theorem dX6_fresh_34 : decode cX6_fresh 34 = .ok (.iload_n 3, 1) := by decide +kernel
theorem dX6_fresh_35 : decode cX6_fresh 35 = .ok (.iconst 4, 1) := by decide +kernel
theorem dX6_fresh_36 : decode cX6_fresh 36 = .ok (.if_icmp .ne 11, 3) := by decide +kernel
theorem dX6_fresh_39 : decode cX6_fresh 39 = .ok (.iconst 2, 1) := by decide +kernel
theorem dX6_fresh_40 : decode cX6_fresh 40 = .ok (.iload_n 2, 1) := by decide +kernel
theorem dX6_fresh_41 : decode cX6_fresh 41 = .ok (.iconst 3, 1) := by decide +kernel
theorem dX6_fresh_42 : decode cX6_fresh 42 = .ok (.iadd, 1) := by decide +kernel
theorem dX6_fresh_43 : decode cX6_fresh 43 = .ok (.imul, 1) := by decide +kernel
theorem dX6_fresh_44 : decode cX6_fresh 44 = .ok (.goto 4, 3) := by decide +kernel
theorem dX6_fresh_47 : decode cX6_fresh 47 = .ok (.iload_n 2, 1) := by decide +kernel
theorem dX6_fresh_48 : decode cX6_fresh 48 = .ok (.ireturn, 1) := by decide +kernel
theorem dX6_fades_0 : decode cX6_fades 0 = .ok (.aload_n 0, 1) := by decide +kernel
theorem dX6_fades_1 : decode cX6_fades 1 = .ok (.iload_n 1, 1) := by decide +kernel
theorem dX6_fades_2 : decode cX6_fades 2 = .ok (.iconst 0, 1) := by decide +kernel
theorem dX6_fades_3 : decode cX6_fades 3 = .ok (.invokevirtual 57, 3) := by decide +kernel
theorem dX6_fades_6 : decode cX6_fades 6 = .ok (.tableswitch 78 1 5 #[34, 36, 38, 57, 60], 34) := by decide +kernel
theorem dX6_fades_40 : decode cX6_fades 40 = .ok (.iconst 1, 1) := by decide +kernel
theorem dX6_fades_41 : decode cX6_fades 41 = .ok (.ireturn, 1) := by decide +kernel
theorem dX6_fades_42 : decode cX6_fades 42 = .ok (.iconst 3, 1) := by decide +kernel
theorem dX6_fades_43 : decode cX6_fades 43 = .ok (.ireturn, 1) := by decide +kernel
theorem dX6_fades_44 : decode cX6_fades 44 = .ok (.aload_n 0, 1) := by decide +kernel
theorem dX6_fades_45 : decode cX6_fades 45 = .ok (.getfield 13, 3) := by decide +kernel
theorem dX6_fades_48 : decode cX6_fades 48 = .ok (.iconst 4, 1) := by decide +kernel
theorem dX6_fades_49 : decode cX6_fades 49 = .ok (.iaload, 1) := by decide +kernel
theorem dX6_fades_50 : decode cX6_fades 50 = .ok (.bipush 6, 2) := by decide +kernel
theorem dX6_fades_52 : decode cX6_fades 52 = .ok (.irem, 1) := by decide +kernel
theorem dX6_fades_53 : decode cX6_fades 53 = .ok (.ifCond .ne 8, 3) := by decide +kernel
theorem dX6_fades_56 : decode cX6_fades 56 = .ok (.bipush (-4), 2) := by decide +kernel
theorem dX6_fades_58 : decode cX6_fades 58 = .ok (.goto 4, 3) := by decide +kernel
theorem dX6_fades_61 : decode cX6_fades 61 = .ok (.iconst 1, 1) := by decide +kernel
theorem dX6_fades_62 : decode cX6_fades 62 = .ok (.ireturn, 1) := by decide +kernel
theorem dX6_fades_63 : decode cX6_fades 63 = .ok (.bipush 6, 2) := by decide +kernel
theorem dX6_fades_65 : decode cX6_fades 65 = .ok (.ireturn, 1) := by decide +kernel
theorem dX6_fades_66 : decode cX6_fades 66 = .ok (.aload_n 0, 1) := by decide +kernel
theorem dX6_fades_67 : decode cX6_fades 67 = .ok (.getfield 13, 3) := by decide +kernel
theorem dX6_fades_70 : decode cX6_fades 70 = .ok (.iconst 4, 1) := by decide +kernel
theorem dX6_fades_71 : decode cX6_fades 71 = .ok (.iaload, 1) := by decide +kernel
theorem dX6_fades_72 : decode cX6_fades 72 = .ok (.iconst 2, 1) := by decide +kernel
theorem dX6_fades_73 : decode cX6_fades 73 = .ok (.irem, 1) := by decide +kernel
theorem dX6_fades_74 : decode cX6_fades 74 = .ok (.iconst 1, 1) := by decide +kernel
theorem dX6_fades_75 : decode cX6_fades 75 = .ok (.if_icmp .ne 7, 3) := by decide +kernel
theorem dX6_fades_78 : decode cX6_fades 78 = .ok (.iconst 0, 1) := by decide +kernel
theorem dX6_fades_79 : decode cX6_fades 79 = .ok (.goto 4, 3) := by decide +kernel
theorem dX6_fades_82 : decode cX6_fades 82 = .ok (.iconst 1, 1) := by decide +kernel
theorem dX6_fades_83 : decode cX6_fades 83 = .ok (.ireturn, 1) := by decide +kernel
theorem dX6_fades_84 : decode cX6_fades 84 = .ok (.iconst 2, 1) := by decide +kernel
theorem dX6_fades_85 : decode cX6_fades 85 = .ok (.ireturn, 1) := by decide +kernel
theorem dX6_hums_0 : decode cX6_hums 0 = .ok (.aload_n 0, 1) := by decide +kernel
theorem dX6_hums_1 : decode cX6_hums 1 = .ok (.iload_n 1, 1) := by decide +kernel
theorem dX6_hums_2 : decode cX6_hums 2 = .ok (.iconst 3, 1) := by decide +kernel
theorem dX6_hums_3 : decode cX6_hums 3 = .ok (.invokevirtual 61, 3) := by decide +kernel
theorem dX6_hums_6 : decode cX6_hums 6 = .ok (.ifCond .ge 5, 3) := by decide +kernel
theorem dX6_hums_9 : decode cX6_hums 9 = .ok (.iconst 0, 1) := by decide +kernel
theorem dX6_hums_10 : decode cX6_hums 10 = .ok (.ireturn, 1) := by decide +kernel
theorem dX6_hums_11 : decode cX6_hums 11 = .ok (.aload_n 0, 1) := by decide +kernel
theorem dX6_hums_12 : decode cX6_hums 12 = .ok (.iload_n 1, 1) := by decide +kernel
theorem dX6_hums_13 : decode cX6_hums 13 = .ok (.iconst 0, 1) := by decide +kernel
theorem dX6_hums_14 : decode cX6_hums 14 = .ok (.invokevirtual 61, 3) := by decide +kernel
theorem dX6_hums_17 : decode cX6_hums 17 = .ok (.tableswitch 56 1 5 #[35, 56, 56, 37, 39], 35) := by decide +kernel
theorem dX6_hums_52 : decode cX6_hums 52 = .ok (.iconst 1, 1) := by decide +kernel
theorem dX6_hums_53 : decode cX6_hums 53 = .ok (.ireturn, 1) := by decide +kernel
theorem dX6_hums_54 : decode cX6_hums 54 = .ok (.iconst 0, 1) := by decide +kernel
theorem dX6_hums_55 : decode cX6_hums 55 = .ok (.ireturn, 1) := by decide +kernel
theorem dX6_hums_56 : decode cX6_hums 56 = .ok (.aload_n 0, 1) := by decide +kernel
theorem dX6_hums_57 : decode cX6_hums 57 = .ok (.getfield 13, 3) := by decide +kernel
theorem dX6_hums_60 : decode cX6_hums 60 = .ok (.iconst 4, 1) := by decide +kernel
theorem dX6_hums_61 : decode cX6_hums 61 = .ok (.iaload, 1) := by decide +kernel
theorem dX6_hums_62 : decode cX6_hums 62 = .ok (.iconst 2, 1) := by decide +kernel
theorem dX6_hums_63 : decode cX6_hums 63 = .ok (.irem, 1) := by decide +kernel
theorem dX6_hums_64 : decode cX6_hums 64 = .ok (.ifCond .ne 7, 3) := by decide +kernel
theorem dX6_hums_67 : decode cX6_hums 67 = .ok (.iconst 1, 1) := by decide +kernel
theorem dX6_hums_68 : decode cX6_hums 68 = .ok (.goto 4, 3) := by decide +kernel
theorem dX6_hums_71 : decode cX6_hums 71 = .ok (.iconst 0, 1) := by decide +kernel
theorem dX6_hums_72 : decode cX6_hums 72 = .ok (.ireturn, 1) := by decide +kernel
theorem dX6_hums_73 : decode cX6_hums 73 = .ok (.aload_n 0, 1) := by decide +kernel
theorem dX6_hums_74 : decode cX6_hums 74 = .ok (.iload_n 1, 1) := by decide +kernel
theorem dX6_hums_75 : decode cX6_hums 75 = .ok (.iconst 4, 1) := by decide +kernel
theorem dX6_hums_76 : decode cX6_hums 76 = .ok (.invokevirtual 61, 3) := by decide +kernel
theorem dX6_hums_79 : decode cX6_hums 79 = .ok (.aload_n 0, 1) := by decide +kernel
theorem dX6_hums_80 : decode cX6_hums 80 = .ok (.getfield 13, 3) := by decide +kernel
theorem dX6_hums_83 : decode cX6_hums 83 = .ok (.iconst 5, 1) := by decide +kernel
theorem dX6_hums_84 : decode cX6_hums 84 = .ok (.iaload, 1) := by decide +kernel
theorem dX6_hums_85 : decode cX6_hums 85 = .ok (.if_icmp .lt 7, 3) := by decide +kernel
theorem dX6_hums_88 : decode cX6_hums 88 = .ok (.iconst 1, 1) := by decide +kernel
theorem dX6_hums_89 : decode cX6_hums 89 = .ok (.goto 4, 3) := by decide +kernel
theorem dX6_hums_92 : decode cX6_hums 92 = .ok (.iconst 0, 1) := by decide +kernel
theorem dX6_hums_93 : decode cX6_hums 93 = .ok (.ireturn, 1) := by decide +kernel
theorem dX6_bar_0 : decode cX6_bar 0 = .ok (.aload_n 0, 1) := by decide +kernel
theorem dX6_bar_1 : decode cX6_bar 1 = .ok (.iload_n 1, 1) := by decide +kernel
theorem dX6_bar_2 : decode cX6_bar 2 = .ok (.iconst 2, 1) := by decide +kernel
theorem dX6_bar_3 : decode cX6_bar 3 = .ok (.invokevirtual 61, 3) := by decide +kernel
theorem dX6_bar_6 : decode cX6_bar 6 = .ok (.istore_n 2, 1) := by decide +kernel
theorem dX6_bar_7 : decode cX6_bar 7 = .ok (.aload_n 0, 1) := by decide +kernel
theorem dX6_bar_8 : decode cX6_bar 8 = .ok (.iload_n 1, 1) := by decide +kernel
theorem dX6_bar_9 : decode cX6_bar 9 = .ok (.iconst 0, 1) := by decide +kernel
theorem dX6_bar_10 : decode cX6_bar 10 = .ok (.invokevirtual 61, 3) := by decide +kernel
theorem dX6_bar_13 : decode cX6_bar 13 = .ok (.tableswitch 44 2 5 #[31, 34, 38, 42], 31) := by decide +kernel
theorem dX6_bar_44 : decode cX6_bar 44 = .ok (.bipush 99, 2) := by decide +kernel
theorem dX6_bar_46 : decode cX6_bar 46 = .ok (.ireturn, 1) := by decide +kernel
theorem dX6_bar_47 : decode cX6_bar 47 = .ok (.iload_n 2, 1) := by decide +kernel
theorem dX6_bar_48 : decode cX6_bar 48 = .ok (.iconst 2, 1) := by decide +kernel
theorem dX6_bar_49 : decode cX6_bar 49 = .ok (.idiv, 1) := by decide +kernel
theorem dX6_bar_50 : decode cX6_bar 50 = .ok (.ireturn, 1) := by decide +kernel
theorem dX6_bar_51 : decode cX6_bar 51 = .ok (.iload_n 2, 1) := by decide +kernel
theorem dX6_bar_52 : decode cX6_bar 52 = .ok (.iconst 3, 1) := by decide +kernel
theorem dX6_bar_53 : decode cX6_bar 53 = .ok (.iadd, 1) := by decide +kernel
theorem dX6_bar_54 : decode cX6_bar 54 = .ok (.ireturn, 1) := by decide +kernel
theorem dX6_bar_55 : decode cX6_bar 55 = .ok (.iconst 0, 1) := by decide +kernel
theorem dX6_bar_56 : decode cX6_bar 56 = .ok (.ireturn, 1) := by decide +kernel
theorem dX6_bar_57 : decode cX6_bar 57 = .ok (.iload_n 2, 1) := by decide +kernel
theorem dX6_bar_58 : decode cX6_bar 58 = .ok (.ireturn, 1) := by decide +kernel
theorem dX6_areNear_0 : decode cX6_areNear 0 = .ok (.aload_n 0, 1) := by decide +kernel
theorem dX6_areNear_1 : decode cX6_areNear 1 = .ok (.iload_n 1, 1) := by decide +kernel
theorem dX6_areNear_2 : decode cX6_areNear 2 = .ok (.iconst 1, 1) := by decide +kernel
theorem dX6_areNear_3 : decode cX6_areNear 3 = .ok (.invokevirtual 61, 3) := by decide +kernel
theorem dX6_areNear_6 : decode cX6_areNear 6 = .ok (.istore_n 3, 1) := by decide +kernel
theorem dX6_areNear_7 : decode cX6_areNear 7 = .ok (.aload_n 0, 1) := by decide +kernel
theorem dX6_areNear_8 : decode cX6_areNear 8 = .ok (.iload_n 2, 1) := by decide +kernel
theorem dX6_areNear_9 : decode cX6_areNear 9 = .ok (.iconst 1, 1) := by decide +kernel
theorem dX6_areNear_10 : decode cX6_areNear 10 = .ok (.invokevirtual 61, 3) := by decide +kernel
theorem dX6_areNear_13 : decode cX6_areNear 13 = .ok (.istore 4, 2) := by decide +kernel
theorem dX6_areNear_15 : decode cX6_areNear 15 = .ok (.iload_n 1, 1) := by decide +kernel
theorem dX6_areNear_16 : decode cX6_areNear 16 = .ok (.iload_n 2, 1) := by decide +kernel
theorem dX6_areNear_17 : decode cX6_areNear 17 = .ok (.if_icmp .ne 5, 3) := by decide +kernel
theorem dX6_areNear_20 : decode cX6_areNear 20 = .ok (.iconst 0, 1) := by decide +kernel
theorem dX6_areNear_21 : decode cX6_areNear 21 = .ok (.ireturn, 1) := by decide +kernel
theorem dX6_areNear_22 : decode cX6_areNear 22 = .ok (.iload_n 3, 1) := by decide +kernel
theorem dX6_areNear_23 : decode cX6_areNear 23 = .ok (.iload 4, 2) := by decide +kernel
theorem dX6_areNear_25 : decode cX6_areNear 25 = .ok (.if_icmp .ne 5, 3) := by decide +kernel
theorem dX6_areNear_28 : decode cX6_areNear 28 = .ok (.iconst 1, 1) := by decide +kernel
theorem dX6_areNear_29 : decode cX6_areNear 29 = .ok (.ireturn, 1) := by decide +kernel
theorem dX6_areNear_30 : decode cX6_areNear 30 = .ok (.iconst 0, 1) := by decide +kernel
theorem dX6_areNear_31 : decode cX6_areNear 31 = .ok (.istore 5, 2) := by decide +kernel
theorem dX6_areNear_33 : decode cX6_areNear 33 = .ok (.iload 5, 2) := by decide +kernel
theorem dX6_areNear_35 : decode cX6_areNear 35 = .ok (.aload_n 0, 1) := by decide +kernel
theorem dX6_areNear_36 : decode cX6_areNear 36 = .ok (.getfield 13, 3) := by decide +kernel
theorem dX6_areNear_39 : decode cX6_areNear 39 = .ok (.iconst 0, 1) := by decide +kernel
theorem dX6_areNear_40 : decode cX6_areNear 40 = .ok (.iaload, 1) := by decide +kernel
theorem dX6_areNear_41 : decode cX6_areNear 41 = .ok (.if_icmp .ge 82, 3) := by decide +kernel
theorem dX6_areNear_44 : decode cX6_areNear 44 = .ok (.aload_n 0, 1) := by decide +kernel
theorem dX6_areNear_45 : decode cX6_areNear 45 = .ok (.getfield 13, 3) := by decide +kernel
theorem dX6_areNear_48 : decode cX6_areNear 48 = .ok (.bipush 6, 2) := by decide +kernel
theorem dX6_areNear_50 : decode cX6_areNear 50 = .ok (.iconst 2, 1) := by decide +kernel
theorem dX6_areNear_51 : decode cX6_areNear 51 = .ok (.iload 5, 2) := by decide +kernel
theorem dX6_areNear_53 : decode cX6_areNear 53 = .ok (.imul, 1) := by decide +kernel
theorem dX6_areNear_54 : decode cX6_areNear 54 = .ok (.iadd, 1) := by decide +kernel
theorem dX6_areNear_55 : decode cX6_areNear 55 = .ok (.iaload, 1) := by decide +kernel
theorem dX6_areNear_56 : decode cX6_areNear 56 = .ok (.istore 6, 2) := by decide +kernel
theorem dX6_areNear_58 : decode cX6_areNear 58 = .ok (.aload_n 0, 1) := by decide +kernel
theorem dX6_areNear_59 : decode cX6_areNear 59 = .ok (.getfield 13, 3) := by decide +kernel
theorem dX6_areNear_62 : decode cX6_areNear 62 = .ok (.bipush 6, 2) := by decide +kernel
theorem dX6_areNear_64 : decode cX6_areNear 64 = .ok (.iconst 2, 1) := by decide +kernel
theorem dX6_areNear_65 : decode cX6_areNear 65 = .ok (.iload 5, 2) := by decide +kernel
theorem dX6_areNear_67 : decode cX6_areNear 67 = .ok (.imul, 1) := by decide +kernel
theorem dX6_areNear_68 : decode cX6_areNear 68 = .ok (.iadd, 1) := by decide +kernel
theorem dX6_areNear_69 : decode cX6_areNear 69 = .ok (.iconst 1, 1) := by decide +kernel
theorem dX6_areNear_70 : decode cX6_areNear 70 = .ok (.iadd, 1) := by decide +kernel
theorem dX6_areNear_71 : decode cX6_areNear 71 = .ok (.iaload, 1) := by decide +kernel
theorem dX6_areNear_72 : decode cX6_areNear 72 = .ok (.istore 7, 2) := by decide +kernel
theorem dX6_areNear_74 : decode cX6_areNear 74 = .ok (.aload_n 0, 1) := by decide +kernel
theorem dX6_areNear_75 : decode cX6_areNear 75 = .ok (.getfield 13, 3) := by decide +kernel
theorem dX6_areNear_78 : decode cX6_areNear 78 = .ok (.iconst 1, 1) := by decide +kernel
theorem dX6_areNear_79 : decode cX6_areNear 79 = .ok (.iaload, 1) := by decide +kernel
theorem dX6_areNear_80 : decode cX6_areNear 80 = .ok (.iload 5, 2) := by decide +kernel
theorem dX6_areNear_82 : decode cX6_areNear 82 = .ok (.ishr, 1) := by decide +kernel
theorem dX6_areNear_83 : decode cX6_areNear 83 = .ok (.iconst 1, 1) := by decide +kernel
theorem dX6_areNear_84 : decode cX6_areNear 84 = .ok (.iand, 1) := by decide +kernel
theorem dX6_areNear_85 : decode cX6_areNear 85 = .ok (.iconst 1, 1) := by decide +kernel
theorem dX6_areNear_86 : decode cX6_areNear 86 = .ok (.if_icmp .ne 31, 3) := by decide +kernel
theorem dX6_areNear_89 : decode cX6_areNear 89 = .ok (.iload 6, 2) := by decide +kernel
theorem dX6_areNear_91 : decode cX6_areNear 91 = .ok (.iload_n 3, 1) := by decide +kernel
theorem dX6_areNear_92 : decode cX6_areNear 92 = .ok (.if_icmp .ne 10, 3) := by decide +kernel
theorem dX6_areNear_95 : decode cX6_areNear 95 = .ok (.iload 7, 2) := by decide +kernel
theorem dX6_areNear_97 : decode cX6_areNear 97 = .ok (.iload 4, 2) := by decide +kernel
theorem dX6_areNear_99 : decode cX6_areNear 99 = .ok (.if_icmp .eq 16, 3) := by decide +kernel
theorem dX6_areNear_102 : decode cX6_areNear 102 = .ok (.iload 6, 2) := by decide +kernel
theorem dX6_areNear_104 : decode cX6_areNear 104 = .ok (.iload 4, 2) := by decide +kernel
theorem dX6_areNear_106 : decode cX6_areNear 106 = .ok (.if_icmp .ne 11, 3) := by decide +kernel
theorem dX6_areNear_109 : decode cX6_areNear 109 = .ok (.iload 7, 2) := by decide +kernel
theorem dX6_areNear_111 : decode cX6_areNear 111 = .ok (.iload_n 3, 1) := by decide +kernel
theorem dX6_areNear_112 : decode cX6_areNear 112 = .ok (.if_icmp .ne 5, 3) := by decide +kernel
theorem dX6_areNear_115 : decode cX6_areNear 115 = .ok (.iconst 1, 1) := by decide +kernel
theorem dX6_areNear_116 : decode cX6_areNear 116 = .ok (.ireturn, 1) := by decide +kernel
theorem dX6_areNear_117 : decode cX6_areNear 117 = .ok (.iinc 5 1, 3) := by decide +kernel
theorem dX6_areNear_120 : decode cX6_areNear 120 = .ok (.goto (-87), 3) := by decide +kernel
theorem dX6_areNear_123 : decode cX6_areNear 123 = .ok (.iconst 0, 1) := by decide +kernel
theorem dX6_areNear_124 : decode cX6_areNear 124 = .ok (.ireturn, 1) := by decide +kernel
theorem dX6_gets_0 : decode cX6_gets 0 = .ok (.aload_n 0, 1) := by decide +kernel
theorem dX6_gets_1 : decode cX6_gets 1 = .ok (.iload_n 1, 1) := by decide +kernel
theorem dX6_gets_2 : decode cX6_gets 2 = .ok (.iconst 3, 1) := by decide +kernel
theorem dX6_gets_3 : decode cX6_gets 3 = .ok (.iload_n 2, 1) := by decide +kernel
theorem dX6_gets_4 : decode cX6_gets 4 = .ok (.ifCond .ge 8, 3) := by decide +kernel
theorem dX6_gets_7 : decode cX6_gets 7 = .ok (.bipush (-9), 2) := by decide +kernel
theorem dX6_gets_9 : decode cX6_gets 9 = .ok (.goto 4, 3) := by decide +kernel
theorem dX6_gets_12 : decode cX6_gets 12 = .ok (.iload_n 2, 1) := by decide +kernel
theorem dX6_gets_13 : decode cX6_gets 13 = .ok (.invokevirtual 64, 3) := by decide +kernel
theorem dX6_gets_16 : decode cX6_gets 16 = .ok (.aload_n 0, 1) := by decide +kernel
theorem dX6_gets_17 : decode cX6_gets 17 = .ok (.iload_n 1, 1) := by decide +kernel
theorem dX6_gets_18 : decode cX6_gets 18 = .ok (.iconst 4, 1) := by decide +kernel
theorem dX6_gets_19 : decode cX6_gets 19 = .ok (.iload_n 2, 1) := by decide +kernel
theorem dX6_gets_20 : decode cX6_gets 20 = .ok (.ifCond .ge 7, 3) := by decide +kernel
theorem dX6_gets_23 : decode cX6_gets 23 = .ok (.iconst 0, 1) := by decide +kernel
theorem dX6_gets_24 : decode cX6_gets 24 = .ok (.goto 8, 3) := by decide +kernel
theorem dX6_gets_27 : decode cX6_gets 27 = .ok (.aload_n 0, 1) := by decide +kernel
theorem dX6_gets_28 : decode cX6_gets 28 = .ok (.iload_n 2, 1) := by decide +kernel
theorem dX6_gets_29 : decode cX6_gets 29 = .ok (.invokevirtual 68, 3) := by decide +kernel
theorem dX6_gets_32 : decode cX6_gets 32 = .ok (.invokevirtual 64, 3) := by decide +kernel
theorem dX6_gets_35 : decode cX6_gets 35 = .ok (.return_, 1) := by decide +kernel
theorem dX6_hears_0 : decode cX6_hears 0 = .ok (.aload_n 0, 1) := by decide +kernel
theorem dX6_hears_1 : decode cX6_hears 1 = .ok (.getfield 25, 3) := by decide +kernel
theorem dX6_hears_4 : decode cX6_hears 4 = .ok (.iload_n 1, 1) := by decide +kernel
theorem dX6_hears_5 : decode cX6_hears 5 = .ok (.bipush (-9), 2) := by decide +kernel
theorem dX6_hears_7 : decode cX6_hears 7 = .ok (.iastore, 1) := by decide +kernel
theorem dX6_hears_8 : decode cX6_hears 8 = .ok (.aload_n 0, 1) := by decide +kernel
theorem dX6_hears_9 : decode cX6_hears 9 = .ok (.getfield 28, 3) := by decide +kernel
theorem dX6_hears_12 : decode cX6_hears 12 = .ok (.iload_n 1, 1) := by decide +kernel
theorem dX6_hears_13 : decode cX6_hears 13 = .ok (.bipush (-9), 2) := by decide +kernel
theorem dX6_hears_15 : decode cX6_hears 15 = .ok (.iastore, 1) := by decide +kernel
theorem dX6_hears_16 : decode cX6_hears 16 = .ok (.iconst 0, 1) := by decide +kernel
theorem dX6_hears_17 : decode cX6_hears 17 = .ok (.istore_n 3, 1) := by decide +kernel
theorem dX6_hears_18 : decode cX6_hears 18 = .ok (.iload_n 3, 1) := by decide +kernel
theorem dX6_hears_19 : decode cX6_hears 19 = .ok (.aload_n 0, 1) := by decide +kernel
theorem dX6_hears_20 : decode cX6_hears 20 = .ok (.getfield 13, 3) := by decide +kernel
theorem dX6_hears_23 : decode cX6_hears 23 = .ok (.iconst 3, 1) := by decide +kernel
theorem dX6_hears_24 : decode cX6_hears 24 = .ok (.iaload, 1) := by decide +kernel
theorem dX6_hears_25 : decode cX6_hears 25 = .ok (.if_icmp .ge 164, 3) := by decide +kernel
theorem dX6_hears_28 : decode cX6_hears 28 = .ok (.iload_n 2, 1) := by decide +kernel
theorem dX6_hears_29 : decode cX6_hears 29 = .ok (.iload_n 3, 1) := by decide +kernel
theorem dX6_hears_30 : decode cX6_hears 30 = .ok (.ishr, 1) := by decide +kernel
theorem dX6_hears_31 : decode cX6_hears 31 = .ok (.iconst 1, 1) := by decide +kernel
theorem dX6_hears_32 : decode cX6_hears 32 = .ok (.iand, 1) := by decide +kernel
theorem dX6_hears_33 : decode cX6_hears 33 = .ok (.ifCond .eq 150, 3) := by decide +kernel
theorem dX6_hears_36 : decode cX6_hears 36 = .ok (.aload_n 0, 1) := by decide +kernel
theorem dX6_hears_37 : decode cX6_hears 37 = .ok (.iload_n 1, 1) := by decide +kernel
theorem dX6_hears_38 : decode cX6_hears 38 = .ok (.iload_n 3, 1) := by decide +kernel
theorem dX6_hears_39 : decode cX6_hears 39 = .ok (.invokevirtual 72, 3) := by decide +kernel
theorem dX6_hears_42 : decode cX6_hears 42 = .ok (.ifCond .eq 141, 3) := by decide +kernel
theorem dX6_hears_45 : decode cX6_hears 45 = .ok (.aload_n 0, 1) := by decide +kernel
theorem dX6_hears_46 : decode cX6_hears 46 = .ok (.iload_n 3, 1) := by decide +kernel
theorem dX6_hears_47 : decode cX6_hears 47 = .ok (.iconst 3, 1) := by decide +kernel
theorem dX6_hears_48 : decode cX6_hears 48 = .ok (.invokevirtual 61, 3) := by decide +kernel
theorem dX6_hears_51 : decode cX6_hears 51 = .ok (.aload_n 0, 1) := by decide +kernel
theorem dX6_hears_52 : decode cX6_hears 52 = .ok (.iload_n 1, 1) := by decide +kernel
theorem dX6_hears_53 : decode cX6_hears 53 = .ok (.iconst 3, 1) := by decide +kernel
theorem dX6_hears_54 : decode cX6_hears 54 = .ok (.invokevirtual 61, 3) := by decide +kernel
theorem dX6_hears_57 : decode cX6_hears 57 = .ok (.if_icmp .ne 6, 3) := by decide +kernel
theorem dX6_hears_60 : decode cX6_hears 60 = .ok (.goto 123, 3) := by decide +kernel
theorem dX6_hears_63 : decode cX6_hears 63 = .ok (.aload_n 0, 1) := by decide +kernel
theorem dX6_hears_64 : decode cX6_hears 64 = .ok (.iload_n 3, 1) := by decide +kernel
theorem dX6_hears_65 : decode cX6_hears 65 = .ok (.iconst 3, 1) := by decide +kernel
theorem dX6_hears_66 : decode cX6_hears 66 = .ok (.invokevirtual 61, 3) := by decide +kernel
theorem dX6_hears_69 : decode cX6_hears 69 = .ok (.istore 4, 2) := by decide +kernel
theorem dX6_hears_71 : decode cX6_hears 71 = .ok (.aload_n 0, 1) := by decide +kernel
theorem dX6_hears_72 : decode cX6_hears 72 = .ok (.getfield 25, 3) := by decide +kernel
theorem dX6_hears_75 : decode cX6_hears 75 = .ok (.iload_n 1, 1) := by decide +kernel
theorem dX6_hears_76 : decode cX6_hears 76 = .ok (.iaload, 1) := by decide +kernel
theorem dX6_hears_77 : decode cX6_hears 77 = .ok (.ifCond .lt 56, 3) := by decide +kernel
theorem dX6_hears_80 : decode cX6_hears 80 = .ok (.aload_n 0, 1) := by decide +kernel
theorem dX6_hears_81 : decode cX6_hears 81 = .ok (.iload 4, 2) := by decide +kernel
theorem dX6_hears_83 : decode cX6_hears 83 = .ok (.iconst 1, 1) := by decide +kernel
theorem dX6_hears_84 : decode cX6_hears 84 = .ok (.invokevirtual 57, 3) := by decide +kernel
theorem dX6_hears_87 : decode cX6_hears 87 = .ok (.aload_n 0, 1) := by decide +kernel
theorem dX6_hears_88 : decode cX6_hears 88 = .ok (.aload_n 0, 1) := by decide +kernel
theorem dX6_hears_89 : decode cX6_hears 89 = .ok (.getfield 25, 3) := by decide +kernel
theorem dX6_hears_92 : decode cX6_hears 92 = .ok (.iload_n 1, 1) := by decide +kernel
theorem dX6_hears_93 : decode cX6_hears 93 = .ok (.iaload, 1) := by decide +kernel
theorem dX6_hears_94 : decode cX6_hears 94 = .ok (.iconst 1, 1) := by decide +kernel
theorem dX6_hears_95 : decode cX6_hears 95 = .ok (.invokevirtual 57, 3) := by decide +kernel
theorem dX6_hears_98 : decode cX6_hears 98 = .ok (.if_icmp .gt 35, 3) := by decide +kernel
theorem dX6_hears_101 : decode cX6_hears 101 = .ok (.aload_n 0, 1) := by decide +kernel
theorem dX6_hears_102 : decode cX6_hears 102 = .ok (.iload 4, 2) := by decide +kernel
theorem dX6_hears_104 : decode cX6_hears 104 = .ok (.iconst 1, 1) := by decide +kernel
theorem dX6_hears_105 : decode cX6_hears 105 = .ok (.invokevirtual 57, 3) := by decide +kernel
theorem dX6_hears_108 : decode cX6_hears 108 = .ok (.aload_n 0, 1) := by decide +kernel
theorem dX6_hears_109 : decode cX6_hears 109 = .ok (.aload_n 0, 1) := by decide +kernel
theorem dX6_hears_110 : decode cX6_hears 110 = .ok (.getfield 25, 3) := by decide +kernel
theorem dX6_hears_113 : decode cX6_hears 113 = .ok (.iload_n 1, 1) := by decide +kernel
theorem dX6_hears_114 : decode cX6_hears 114 = .ok (.iaload, 1) := by decide +kernel
theorem dX6_hears_115 : decode cX6_hears 115 = .ok (.iconst 1, 1) := by decide +kernel
theorem dX6_hears_116 : decode cX6_hears 116 = .ok (.invokevirtual 57, 3) := by decide +kernel
theorem dX6_hears_119 : decode cX6_hears 119 = .ok (.if_icmp .ne 18, 3) := by decide +kernel
theorem dX6_hears_122 : decode cX6_hears 122 = .ok (.iload 4, 2) := by decide +kernel
theorem dX6_hears_124 : decode cX6_hears 124 = .ok (.aload_n 0, 1) := by decide +kernel
theorem dX6_hears_125 : decode cX6_hears 125 = .ok (.getfield 25, 3) := by decide +kernel
theorem dX6_hears_128 : decode cX6_hears 128 = .ok (.iload_n 1, 1) := by decide +kernel
theorem dX6_hears_129 : decode cX6_hears 129 = .ok (.iaload, 1) := by decide +kernel
theorem dX6_hears_130 : decode cX6_hears 130 = .ok (.if_icmp .ge 7, 3) := by decide +kernel
theorem dX6_hears_133 : decode cX6_hears 133 = .ok (.iconst 1, 1) := by decide +kernel
theorem dX6_hears_134 : decode cX6_hears 134 = .ok (.goto 4, 3) := by decide +kernel
theorem dX6_hears_137 : decode cX6_hears 137 = .ok (.iconst 0, 1) := by decide +kernel
theorem dX6_hears_138 : decode cX6_hears 138 = .ok (.istore 5, 2) := by decide +kernel
theorem dX6_hears_140 : decode cX6_hears 140 = .ok (.aload_n 0, 1) := by decide +kernel
theorem dX6_hears_141 : decode cX6_hears 141 = .ok (.getfield 28, 3) := by decide +kernel
theorem dX6_hears_144 : decode cX6_hears 144 = .ok (.iload_n 1, 1) := by decide +kernel
theorem dX6_hears_145 : decode cX6_hears 145 = .ok (.iload 5, 2) := by decide +kernel
theorem dX6_hears_147 : decode cX6_hears 147 = .ok (.ifCond .eq 7, 3) := by decide +kernel
theorem dX6_hears_150 : decode cX6_hears 150 = .ok (.iload_n 3, 1) := by decide +kernel
theorem dX6_hears_151 : decode cX6_hears 151 = .ok (.goto 9, 3) := by decide +kernel
theorem dX6_hears_154 : decode cX6_hears 154 = .ok (.aload_n 0, 1) := by decide +kernel
theorem dX6_hears_155 : decode cX6_hears 155 = .ok (.getfield 28, 3) := by decide +kernel
theorem dX6_hears_158 : decode cX6_hears 158 = .ok (.iload_n 1, 1) := by decide +kernel
theorem dX6_hears_159 : decode cX6_hears 159 = .ok (.iaload, 1) := by decide +kernel
theorem dX6_hears_160 : decode cX6_hears 160 = .ok (.iastore, 1) := by decide +kernel
theorem dX6_hears_161 : decode cX6_hears 161 = .ok (.aload_n 0, 1) := by decide +kernel
theorem dX6_hears_162 : decode cX6_hears 162 = .ok (.getfield 25, 3) := by decide +kernel
theorem dX6_hears_165 : decode cX6_hears 165 = .ok (.iload_n 1, 1) := by decide +kernel
theorem dX6_hears_166 : decode cX6_hears 166 = .ok (.iload 5, 2) := by decide +kernel
theorem dX6_hears_168 : decode cX6_hears 168 = .ok (.ifCond .eq 8, 3) := by decide +kernel
theorem dX6_hears_171 : decode cX6_hears 171 = .ok (.iload 4, 2) := by decide +kernel
theorem dX6_hears_173 : decode cX6_hears 173 = .ok (.goto 9, 3) := by decide +kernel
theorem dX6_hears_176 : decode cX6_hears 176 = .ok (.aload_n 0, 1) := by decide +kernel
theorem dX6_hears_177 : decode cX6_hears 177 = .ok (.getfield 25, 3) := by decide +kernel
theorem dX6_hears_180 : decode cX6_hears 180 = .ok (.iload_n 1, 1) := by decide +kernel
theorem dX6_hears_181 : decode cX6_hears 181 = .ok (.iaload, 1) := by decide +kernel
theorem dX6_hears_182 : decode cX6_hears 182 = .ok (.iastore, 1) := by decide +kernel
theorem dX6_hears_183 : decode cX6_hears 183 = .ok (.iinc 3 1, 3) := by decide +kernel
theorem dX6_hears_186 : decode cX6_hears 186 = .ok (.goto (-168), 3) := by decide +kernel
theorem dX6_hears_189 : decode cX6_hears 189 = .ok (.aload_n 0, 1) := by decide +kernel
theorem dX6_hears_190 : decode cX6_hears 190 = .ok (.getfield 25, 3) := by decide +kernel
theorem dX6_hears_193 : decode cX6_hears 193 = .ok (.iload_n 1, 1) := by decide +kernel
theorem dX6_hears_194 : decode cX6_hears 194 = .ok (.iaload, 1) := by decide +kernel
theorem dX6_hears_195 : decode cX6_hears 195 = .ok (.ifCond .lt 49, 3) := by decide +kernel
theorem dX6_hears_198 : decode cX6_hears 198 = .ok (.aload_n 0, 1) := by decide +kernel
theorem dX6_hears_199 : decode cX6_hears 199 = .ok (.aload_n 0, 1) := by decide +kernel
theorem dX6_hears_200 : decode cX6_hears 200 = .ok (.getfield 25, 3) := by decide +kernel
theorem dX6_hears_203 : decode cX6_hears 203 = .ok (.iload_n 1, 1) := by decide +kernel
theorem dX6_hears_204 : decode cX6_hears 204 = .ok (.iaload, 1) := by decide +kernel
theorem dX6_hears_205 : decode cX6_hears 205 = .ok (.iconst 1, 1) := by decide +kernel
theorem dX6_hears_206 : decode cX6_hears 206 = .ok (.invokevirtual 57, 3) := by decide +kernel
theorem dX6_hears_209 : decode cX6_hears 209 = .ok (.aload_n 0, 1) := by decide +kernel
theorem dX6_hears_210 : decode cX6_hears 210 = .ok (.iload_n 1, 1) := by decide +kernel
theorem dX6_hears_211 : decode cX6_hears 211 = .ok (.invokevirtual 75, 3) := by decide +kernel
theorem dX6_hears_214 : decode cX6_hears 214 = .ok (.if_icmp .le 22, 3) := by decide +kernel
theorem dX6_hears_217 : decode cX6_hears 217 = .ok (.aload_n 0, 1) := by decide +kernel
theorem dX6_hears_218 : decode cX6_hears 218 = .ok (.aload_n 0, 1) := by decide +kernel
theorem dX6_hears_219 : decode cX6_hears 219 = .ok (.getfield 25, 3) := by decide +kernel
theorem dX6_hears_222 : decode cX6_hears 222 = .ok (.iload_n 1, 1) := by decide +kernel
theorem dX6_hears_223 : decode cX6_hears 223 = .ok (.iaload, 1) := by decide +kernel
theorem dX6_hears_224 : decode cX6_hears 224 = .ok (.invokevirtual 68, 3) := by decide +kernel
theorem dX6_hears_227 : decode cX6_hears 227 = .ok (.aload_n 0, 1) := by decide +kernel
theorem dX6_hears_228 : decode cX6_hears 228 = .ok (.iload_n 1, 1) := by decide +kernel
theorem dX6_hears_229 : decode cX6_hears 229 = .ok (.iconst 4, 1) := by decide +kernel
theorem dX6_hears_230 : decode cX6_hears 230 = .ok (.invokevirtual 61, 3) := by decide +kernel
theorem dX6_hears_233 : decode cX6_hears 233 = .ok (.if_icmp .gt 11, 3) := by decide +kernel
theorem dX6_hears_236 : decode cX6_hears 236 = .ok (.aload_n 0, 1) := by decide +kernel
theorem dX6_hears_237 : decode cX6_hears 237 = .ok (.getfield 25, 3) := by decide +kernel
theorem dX6_hears_240 : decode cX6_hears 240 = .ok (.iload_n 1, 1) := by decide +kernel
theorem dX6_hears_241 : decode cX6_hears 241 = .ok (.bipush (-9), 2) := by decide +kernel
theorem dX6_hears_243 : decode cX6_hears 243 = .ok (.iastore, 1) := by decide +kernel
theorem dX6_hears_244 : decode cX6_hears 244 = .ok (.return_, 1) := by decide +kernel
theorem dX6_wanes_0 : decode cX6_wanes 0 = .ok (.aload_n 0, 1) := by decide +kernel
theorem dX6_wanes_1 : decode cX6_wanes 1 = .ok (.iload_n 1, 1) := by decide +kernel
theorem dX6_wanes_2 : decode cX6_wanes 2 = .ok (.iconst 3, 1) := by decide +kernel
theorem dX6_wanes_3 : decode cX6_wanes 3 = .ok (.invokevirtual 61, 3) := by decide +kernel
theorem dX6_wanes_6 : decode cX6_wanes 6 = .ok (.istore_n 2, 1) := by decide +kernel
theorem dX6_wanes_7 : decode cX6_wanes 7 = .ok (.iload_n 2, 1) := by decide +kernel
theorem dX6_wanes_8 : decode cX6_wanes 8 = .ok (.ifCond .ge 4, 3) := by decide +kernel
theorem dX6_wanes_11 : decode cX6_wanes 11 = .ok (.return_, 1) := by decide +kernel
theorem dX6_wanes_12 : decode cX6_wanes 12 = .ok (.aload_n 0, 1) := by decide +kernel
theorem dX6_wanes_13 : decode cX6_wanes 13 = .ok (.iload_n 1, 1) := by decide +kernel
theorem dX6_wanes_14 : decode cX6_wanes 14 = .ok (.iconst 4, 1) := by decide +kernel
theorem dX6_wanes_15 : decode cX6_wanes 15 = .ok (.invokevirtual 61, 3) := by decide +kernel
theorem dX6_wanes_18 : decode cX6_wanes 18 = .ok (.aload_n 0, 1) := by decide +kernel
theorem dX6_wanes_19 : decode cX6_wanes 19 = .ok (.iload_n 2, 1) := by decide +kernel
theorem dX6_wanes_20 : decode cX6_wanes 20 = .ok (.invokevirtual 78, 3) := by decide +kernel
theorem dX6_wanes_23 : decode cX6_wanes 23 = .ok (.isub, 1) := by decide +kernel
theorem dX6_wanes_24 : decode cX6_wanes 24 = .ok (.aload_n 0, 1) := by decide +kernel
theorem dX6_wanes_25 : decode cX6_wanes 25 = .ok (.iload_n 1, 1) := by decide +kernel
theorem dX6_wanes_26 : decode cX6_wanes 26 = .ok (.iconst 5, 1) := by decide +kernel
theorem dX6_wanes_27 : decode cX6_wanes 27 = .ok (.invokevirtual 61, 3) := by decide +kernel
theorem dX6_wanes_30 : decode cX6_wanes 30 = .ok (.ifCond .le 7, 3) := by decide +kernel
theorem dX6_wanes_33 : decode cX6_wanes 33 = .ok (.iconst 1, 1) := by decide +kernel
theorem dX6_wanes_34 : decode cX6_wanes 34 = .ok (.goto 4, 3) := by decide +kernel
theorem dX6_wanes_37 : decode cX6_wanes 37 = .ok (.iconst 0, 1) := by decide +kernel
theorem dX6_wanes_38 : decode cX6_wanes 38 = .ok (.isub, 1) := by decide +kernel
theorem dX6_wanes_39 : decode cX6_wanes 39 = .ok (.istore_n 3, 1) := by decide +kernel
theorem dX6_wanes_40 : decode cX6_wanes 40 = .ok (.iload_n 3, 1) := by decide +kernel
theorem dX6_wanes_41 : decode cX6_wanes 41 = .ok (.bipush 60, 2) := by decide +kernel
theorem dX6_wanes_43 : decode cX6_wanes 43 = .ok (.if_icmp .le 8, 3) := by decide +kernel
theorem dX6_wanes_46 : decode cX6_wanes 46 = .ok (.bipush 60, 2) := by decide +kernel
theorem dX6_wanes_48 : decode cX6_wanes 48 = .ok (.goto 4, 3) := by decide +kernel
theorem dX6_wanes_51 : decode cX6_wanes 51 = .ok (.iload_n 3, 1) := by decide +kernel
theorem dX6_wanes_52 : decode cX6_wanes 52 = .ok (.istore_n 3, 1) := by decide +kernel
theorem dX6_wanes_53 : decode cX6_wanes 53 = .ok (.iload_n 3, 1) := by decide +kernel
theorem dX6_wanes_54 : decode cX6_wanes 54 = .ok (.ifCond .gt 13, 3) := by decide +kernel
theorem dX6_wanes_57 : decode cX6_wanes 57 = .ok (.aload_n 0, 1) := by decide +kernel
theorem dX6_wanes_58 : decode cX6_wanes 58 = .ok (.iload_n 1, 1) := by decide +kernel
theorem dX6_wanes_59 : decode cX6_wanes 59 = .ok (.bipush (-9), 2) := by decide +kernel
theorem dX6_wanes_61 : decode cX6_wanes 61 = .ok (.invokevirtual 81, 3) := by decide +kernel
theorem dX6_wanes_64 : decode cX6_wanes 64 = .ok (.goto 10, 3) := by decide +kernel
theorem dX6_wanes_67 : decode cX6_wanes 67 = .ok (.aload_n 0, 1) := by decide +kernel
theorem dX6_wanes_68 : decode cX6_wanes 68 = .ok (.iload_n 1, 1) := by decide +kernel
theorem dX6_wanes_69 : decode cX6_wanes 69 = .ok (.iconst 4, 1) := by decide +kernel
theorem dX6_wanes_70 : decode cX6_wanes 70 = .ok (.iload_n 3, 1) := by decide +kernel
theorem dX6_wanes_71 : decode cX6_wanes 71 = .ok (.invokevirtual 64, 3) := by decide +kernel
theorem dX6_wanes_74 : decode cX6_wanes 74 = .ok (.return_, 1) := by decide +kernel
theorem dX6_goes_0 : decode cX6_goes 0 = .ok (.iconst 0, 1) := by decide +kernel
theorem dX6_goes_1 : decode cX6_goes 1 = .ok (.istore_n 1, 1) := by decide +kernel
theorem dX6_goes_2 : decode cX6_goes 2 = .ok (.iconst 0, 1) := by decide +kernel
theorem dX6_goes_3 : decode cX6_goes 3 = .ok (.istore_n 2, 1) := by decide +kernel
theorem dX6_goes_4 : decode cX6_goes 4 = .ok (.iconst 0, 1) := by decide +kernel
theorem dX6_goes_5 : decode cX6_goes 5 = .ok (.istore_n 3, 1) := by decide +kernel
theorem dX6_goes_6 : decode cX6_goes 6 = .ok (.iload_n 3, 1) := by decide +kernel
theorem dX6_goes_7 : decode cX6_goes 7 = .ok (.aload_n 0, 1) := by decide +kernel
theorem dX6_goes_8 : decode cX6_goes 8 = .ok (.getfield 13, 3) := by decide +kernel
theorem dX6_goes_11 : decode cX6_goes 11 = .ok (.iconst 3, 1) := by decide +kernel
theorem dX6_goes_12 : decode cX6_goes 12 = .ok (.iaload, 1) := by decide +kernel
theorem dX6_goes_13 : decode cX6_goes 13 = .ok (.if_icmp .ge 27, 3) := by decide +kernel
theorem dX6_goes_16 : decode cX6_goes 16 = .ok (.iload_n 1, 1) := by decide +kernel
theorem dX6_goes_17 : decode cX6_goes 17 = .ok (.aload_n 0, 1) := by decide +kernel
theorem dX6_goes_18 : decode cX6_goes 18 = .ok (.iload_n 3, 1) := by decide +kernel
theorem dX6_goes_19 : decode cX6_goes 19 = .ok (.invokevirtual 85, 3) := by decide +kernel
theorem dX6_goes_22 : decode cX6_goes 22 = .ok (.ifCond .eq 9, 3) := by decide +kernel
theorem dX6_goes_25 : decode cX6_goes 25 = .ok (.iconst 1, 1) := by decide +kernel
theorem dX6_goes_26 : decode cX6_goes 26 = .ok (.iload_n 3, 1) := by decide +kernel
theorem dX6_goes_27 : decode cX6_goes 27 = .ok (.ishl, 1) := by decide +kernel
theorem dX6_goes_28 : decode cX6_goes 28 = .ok (.goto 4, 3) := by decide +kernel
theorem dX6_goes_31 : decode cX6_goes 31 = .ok (.iconst 0, 1) := by decide +kernel
theorem dX6_goes_32 : decode cX6_goes 32 = .ok (.ior, 1) := by decide +kernel
theorem dX6_goes_33 : decode cX6_goes 33 = .ok (.istore_n 1, 1) := by decide +kernel
theorem dX6_goes_34 : decode cX6_goes 34 = .ok (.iinc 3 1, 3) := by decide +kernel
theorem dX6_goes_37 : decode cX6_goes 37 = .ok (.goto (-31), 3) := by decide +kernel
theorem dX6_goes_40 : decode cX6_goes 40 = .ok (.iconst 0, 1) := by decide +kernel
theorem dX6_goes_41 : decode cX6_goes 41 = .ok (.istore_n 3, 1) := by decide +kernel
theorem dX6_goes_42 : decode cX6_goes 42 = .ok (.iload_n 3, 1) := by decide +kernel
theorem dX6_goes_43 : decode cX6_goes 43 = .ok (.aload_n 0, 1) := by decide +kernel
theorem dX6_goes_44 : decode cX6_goes 44 = .ok (.getfield 13, 3) := by decide +kernel
theorem dX6_goes_47 : decode cX6_goes 47 = .ok (.iconst 3, 1) := by decide +kernel
theorem dX6_goes_48 : decode cX6_goes 48 = .ok (.iaload, 1) := by decide +kernel
theorem dX6_goes_49 : decode cX6_goes 49 = .ok (.if_icmp .ge 27, 3) := by decide +kernel
theorem dX6_goes_52 : decode cX6_goes 52 = .ok (.aload_n 0, 1) := by decide +kernel
theorem dX6_goes_53 : decode cX6_goes 53 = .ok (.iload_n 3, 1) := by decide +kernel
theorem dX6_goes_54 : decode cX6_goes 54 = .ok (.iload_n 1, 1) := by decide +kernel
theorem dX6_goes_55 : decode cX6_goes 55 = .ok (.invokevirtual 89, 3) := by decide +kernel
theorem dX6_goes_58 : decode cX6_goes 58 = .ok (.aload_n 0, 1) := by decide +kernel
theorem dX6_goes_59 : decode cX6_goes 59 = .ok (.getfield 37, 3) := by decide +kernel
theorem dX6_goes_62 : decode cX6_goes 62 = .ok (.iload_n 3, 1) := by decide +kernel
theorem dX6_goes_63 : decode cX6_goes 63 = .ok (.aload_n 0, 1) := by decide +kernel
theorem dX6_goes_64 : decode cX6_goes 64 = .ok (.getfield 34, 3) := by decide +kernel
theorem dX6_goes_67 : decode cX6_goes 67 = .ok (.iload_n 3, 1) := by decide +kernel
theorem dX6_goes_68 : decode cX6_goes 68 = .ok (.iaload, 1) := by decide +kernel
theorem dX6_goes_69 : decode cX6_goes 69 = .ok (.iastore, 1) := by decide +kernel
theorem dX6_goes_70 : decode cX6_goes 70 = .ok (.iinc 3 1, 3) := by decide +kernel
theorem dX6_goes_73 : decode cX6_goes 73 = .ok (.goto (-31), 3) := by decide +kernel
theorem dX6_goes_76 : decode cX6_goes 76 = .ok (.iconst 0, 1) := by decide +kernel
theorem dX6_goes_77 : decode cX6_goes 77 = .ok (.istore_n 3, 1) := by decide +kernel
theorem dX6_goes_78 : decode cX6_goes 78 = .ok (.iload_n 3, 1) := by decide +kernel
theorem dX6_goes_79 : decode cX6_goes 79 = .ok (.aload_n 0, 1) := by decide +kernel
theorem dX6_goes_80 : decode cX6_goes 80 = .ok (.getfield 13, 3) := by decide +kernel
theorem dX6_goes_83 : decode cX6_goes 83 = .ok (.iconst 3, 1) := by decide +kernel
theorem dX6_goes_84 : decode cX6_goes 84 = .ok (.iaload, 1) := by decide +kernel
theorem dX6_goes_85 : decode cX6_goes 85 = .ok (.if_icmp .ge 92, 3) := by decide +kernel
theorem dX6_goes_88 : decode cX6_goes 88 = .ok (.aload_n 0, 1) := by decide +kernel
theorem dX6_goes_89 : decode cX6_goes 89 = .ok (.getfield 25, 3) := by decide +kernel
theorem dX6_goes_92 : decode cX6_goes 92 = .ok (.iload_n 3, 1) := by decide +kernel
theorem dX6_goes_93 : decode cX6_goes 93 = .ok (.iaload, 1) := by decide +kernel
theorem dX6_goes_94 : decode cX6_goes 94 = .ok (.ifCond .lt 49, 3) := by decide +kernel
theorem dX6_goes_97 : decode cX6_goes 97 = .ok (.aload_n 0, 1) := by decide +kernel
theorem dX6_goes_98 : decode cX6_goes 98 = .ok (.iload_n 3, 1) := by decide +kernel
theorem dX6_goes_99 : decode cX6_goes 99 = .ok (.aload_n 0, 1) := by decide +kernel
theorem dX6_goes_100 : decode cX6_goes 100 = .ok (.getfield 25, 3) := by decide +kernel
theorem dX6_goes_103 : decode cX6_goes 103 = .ok (.iload_n 3, 1) := by decide +kernel
theorem dX6_goes_104 : decode cX6_goes 104 = .ok (.iaload, 1) := by decide +kernel
theorem dX6_goes_105 : decode cX6_goes 105 = .ok (.invokevirtual 81, 3) := by decide +kernel
theorem dX6_goes_108 : decode cX6_goes 108 = .ok (.aload_n 0, 1) := by decide +kernel
theorem dX6_goes_109 : decode cX6_goes 109 = .ok (.getfield 31, 3) := by decide +kernel
theorem dX6_goes_112 : decode cX6_goes 112 = .ok (.iload_n 3, 1) := by decide +kernel
theorem dX6_goes_113 : decode cX6_goes 113 = .ok (.aload_n 0, 1) := by decide +kernel
theorem dX6_goes_114 : decode cX6_goes 114 = .ok (.getfield 28, 3) := by decide +kernel
theorem dX6_goes_117 : decode cX6_goes 117 = .ok (.iload_n 3, 1) := by decide +kernel
theorem dX6_goes_118 : decode cX6_goes 118 = .ok (.iaload, 1) := by decide +kernel
theorem dX6_goes_119 : decode cX6_goes 119 = .ok (.iastore, 1) := by decide +kernel
theorem dX6_goes_120 : decode cX6_goes 120 = .ok (.aload_n 0, 1) := by decide +kernel
theorem dX6_goes_121 : decode cX6_goes 121 = .ok (.getfield 34, 3) := by decide +kernel
theorem dX6_goes_124 : decode cX6_goes 124 = .ok (.iload_n 3, 1) := by decide +kernel
theorem dX6_goes_125 : decode cX6_goes 125 = .ok (.aload_n 0, 1) := by decide +kernel
theorem dX6_goes_126 : decode cX6_goes 126 = .ok (.getfield 37, 3) := by decide +kernel
theorem dX6_goes_129 : decode cX6_goes 129 = .ok (.aload_n 0, 1) := by decide +kernel
theorem dX6_goes_130 : decode cX6_goes 130 = .ok (.getfield 28, 3) := by decide +kernel
theorem dX6_goes_133 : decode cX6_goes 133 = .ok (.iload_n 3, 1) := by decide +kernel
theorem dX6_goes_134 : decode cX6_goes 134 = .ok (.iaload, 1) := by decide +kernel
theorem dX6_goes_135 : decode cX6_goes 135 = .ok (.iaload, 1) := by decide +kernel
theorem dX6_goes_136 : decode cX6_goes 136 = .ok (.iastore, 1) := by decide +kernel
theorem dX6_goes_137 : decode cX6_goes 137 = .ok (.iinc 2 1, 3) := by decide +kernel
theorem dX6_goes_140 : decode cX6_goes 140 = .ok (.goto 8, 3) := by decide +kernel
theorem dX6_goes_143 : decode cX6_goes 143 = .ok (.aload_n 0, 1) := by decide +kernel
theorem dX6_goes_144 : decode cX6_goes 144 = .ok (.iload_n 3, 1) := by decide +kernel
theorem dX6_goes_145 : decode cX6_goes 145 = .ok (.invokevirtual 92, 3) := by decide +kernel
theorem dX6_goes_148 : decode cX6_goes 148 = .ok (.aload_n 0, 1) := by decide +kernel
theorem dX6_goes_149 : decode cX6_goes 149 = .ok (.iload_n 3, 1) := by decide +kernel
theorem dX6_goes_150 : decode cX6_goes 150 = .ok (.iconst 5, 1) := by decide +kernel
theorem dX6_goes_151 : decode cX6_goes 151 = .ok (.invokevirtual 61, 3) := by decide +kernel
theorem dX6_goes_154 : decode cX6_goes 154 = .ok (.ifCond .le 17, 3) := by decide +kernel
theorem dX6_goes_157 : decode cX6_goes 157 = .ok (.aload_n 0, 1) := by decide +kernel
theorem dX6_goes_158 : decode cX6_goes 158 = .ok (.iload_n 3, 1) := by decide +kernel
theorem dX6_goes_159 : decode cX6_goes 159 = .ok (.iconst 5, 1) := by decide +kernel
theorem dX6_goes_160 : decode cX6_goes 160 = .ok (.aload_n 0, 1) := by decide +kernel
theorem dX6_goes_161 : decode cX6_goes 161 = .ok (.iload_n 3, 1) := by decide +kernel
theorem dX6_goes_162 : decode cX6_goes 162 = .ok (.iconst 5, 1) := by decide +kernel
theorem dX6_goes_163 : decode cX6_goes 163 = .ok (.invokevirtual 61, 3) := by decide +kernel
theorem dX6_goes_166 : decode cX6_goes 166 = .ok (.iconst 1, 1) := by decide +kernel
theorem dX6_goes_167 : decode cX6_goes 167 = .ok (.isub, 1) := by decide +kernel
theorem dX6_goes_168 : decode cX6_goes 168 = .ok (.invokevirtual 64, 3) := by decide +kernel
theorem dX6_goes_171 : decode cX6_goes 171 = .ok (.iinc 3 1, 3) := by decide +kernel
theorem dX6_goes_174 : decode cX6_goes 174 = .ok (.goto (-96), 3) := by decide +kernel
theorem dX6_goes_177 : decode cX6_goes 177 = .ok (.aload_n 0, 1) := by decide +kernel
theorem dX6_goes_178 : decode cX6_goes 178 = .ok (.getfield 13, 3) := by decide +kernel
theorem dX6_goes_181 : decode cX6_goes 181 = .ok (.iconst 4, 1) := by decide +kernel
theorem dX6_goes_182 : decode cX6_goes 182 = .ok (.dup2, 1) := by decide +kernel
theorem dX6_goes_183 : decode cX6_goes 183 = .ok (.iaload, 1) := by decide +kernel
theorem dX6_goes_184 : decode cX6_goes 184 = .ok (.iconst 1, 1) := by decide +kernel
theorem dX6_goes_185 : decode cX6_goes 185 = .ok (.iadd, 1) := by decide +kernel
theorem dX6_goes_186 : decode cX6_goes 186 = .ok (.iastore, 1) := by decide +kernel
theorem dX6_goes_187 : decode cX6_goes 187 = .ok (.iload_n 2, 1) := by decide +kernel
theorem dX6_goes_188 : decode cX6_goes 188 = .ok (.ireturn, 1) := by decide +kernel
theorem dX6_starts_0 : decode cX6_starts 0 = .ok (.aload_n 0, 1) := by decide +kernel
theorem dX6_starts_1 : decode cX6_starts 1 = .ok (.invokevirtual 96, 3) := by decide +kernel
theorem dX6_starts_4 : decode cX6_starts 4 = .ok (.iconst 0, 1) := by decide +kernel
theorem dX6_starts_5 : decode cX6_starts 5 = .ok (.istore_n 1, 1) := by decide +kernel
theorem dX6_starts_6 : decode cX6_starts 6 = .ok (.iload_n 1, 1) := by decide +kernel
theorem dX6_starts_7 : decode cX6_starts 7 = .ok (.bipush 6, 2) := by decide +kernel
theorem dX6_starts_9 : decode cX6_starts 9 = .ok (.if_icmp .ge 23, 3) := by decide +kernel
theorem dX6_starts_12 : decode cX6_starts 12 = .ok (.aload_n 0, 1) := by decide +kernel
theorem dX6_starts_13 : decode cX6_starts 13 = .ok (.getfield 31, 3) := by decide +kernel
theorem dX6_starts_16 : decode cX6_starts 16 = .ok (.iload_n 1, 1) := by decide +kernel
theorem dX6_starts_17 : decode cX6_starts 17 = .ok (.iload_n 1, 1) := by decide +kernel
theorem dX6_starts_18 : decode cX6_starts 18 = .ok (.iastore, 1) := by decide +kernel
theorem dX6_starts_19 : decode cX6_starts 19 = .ok (.aload_n 0, 1) := by decide +kernel
theorem dX6_starts_20 : decode cX6_starts 20 = .ok (.getfield 34, 3) := by decide +kernel
theorem dX6_starts_23 : decode cX6_starts 23 = .ok (.iload_n 1, 1) := by decide +kernel
theorem dX6_starts_24 : decode cX6_starts 24 = .ok (.iload_n 1, 1) := by decide +kernel
theorem dX6_starts_25 : decode cX6_starts 25 = .ok (.iastore, 1) := by decide +kernel
theorem dX6_starts_26 : decode cX6_starts 26 = .ok (.iinc 1 1, 3) := by decide +kernel
theorem dX6_starts_29 : decode cX6_starts 29 = .ok (.goto (-23), 3) := by decide +kernel
theorem dX6_starts_32 : decode cX6_starts 32 = .ok (.return_, 1) := by decide +kernel
theorem dX6_goesFor_0 : decode cX6_goesFor 0 = .ok (.iconst 0, 1) := by decide +kernel
theorem dX6_goesFor_1 : decode cX6_goesFor 1 = .ok (.istore_n 2, 1) := by decide +kernel
theorem dX6_goesFor_2 : decode cX6_goesFor 2 = .ok (.iload_n 2, 1) := by decide +kernel
theorem dX6_goesFor_3 : decode cX6_goesFor 3 = .ok (.iload_n 1, 1) := by decide +kernel
theorem dX6_goesFor_4 : decode cX6_goesFor 4 = .ok (.if_icmp .ge 14, 3) := by decide +kernel
theorem dX6_goesFor_7 : decode cX6_goesFor 7 = .ok (.aload_n 0, 1) := by decide +kernel
theorem dX6_goesFor_8 : decode cX6_goesFor 8 = .ok (.invokevirtual 99, 3) := by decide +kernel
theorem dX6_goesFor_11 : decode cX6_goesFor 11 = .ok (.pop, 1) := by decide +kernel
theorem dX6_goesFor_12 : decode cX6_goesFor 12 = .ok (.iinc 2 1, 3) := by decide +kernel
theorem dX6_goesFor_15 : decode cX6_goesFor 15 = .ok (.goto (-13), 3) := by decide +kernel
theorem dX6_goesFor_18 : decode cX6_goesFor 18 = .ok (.return_, 1) := by decide +kernel
theorem dX6_haveIt_0 : decode cX6_haveIt 0 = .ok (.iconst 0, 1) := by decide +kernel
theorem dX6_haveIt_1 : decode cX6_haveIt 1 = .ok (.istore_n 2, 1) := by decide +kernel
theorem dX6_haveIt_2 : decode cX6_haveIt 2 = .ok (.iconst 0, 1) := by decide +kernel
theorem dX6_haveIt_3 : decode cX6_haveIt 3 = .ok (.istore_n 3, 1) := by decide +kernel
theorem dX6_haveIt_4 : decode cX6_haveIt 4 = .ok (.iload_n 3, 1) := by decide +kernel
theorem dX6_haveIt_5 : decode cX6_haveIt 5 = .ok (.aload_n 0, 1) := by decide +kernel
theorem dX6_haveIt_6 : decode cX6_haveIt 6 = .ok (.getfield 13, 3) := by decide +kernel
theorem dX6_haveIt_9 : decode cX6_haveIt 9 = .ok (.iconst 3, 1) := by decide +kernel
theorem dX6_haveIt_10 : decode cX6_haveIt 10 = .ok (.iaload, 1) := by decide +kernel
theorem dX6_haveIt_11 : decode cX6_haveIt 11 = .ok (.if_icmp .ge 48, 3) := by decide +kernel
theorem dX6_haveIt_14 : decode cX6_haveIt 14 = .ok (.iload_n 2, 1) := by decide +kernel
theorem dX6_haveIt_15 : decode cX6_haveIt 15 = .ok (.iload_n 1, 1) := by decide +kernel
theorem dX6_haveIt_16 : decode cX6_haveIt 16 = .ok (.ifCond .ge 20, 3) := by decide +kernel
theorem dX6_haveIt_19 : decode cX6_haveIt 19 = .ok (.aload_n 0, 1) := by decide +kernel
theorem dX6_haveIt_20 : decode cX6_haveIt 20 = .ok (.iload_n 3, 1) := by decide +kernel
theorem dX6_haveIt_21 : decode cX6_haveIt 21 = .ok (.iconst 3, 1) := by decide +kernel
theorem dX6_haveIt_22 : decode cX6_haveIt 22 = .ok (.invokevirtual 61, 3) := by decide +kernel
theorem dX6_haveIt_25 : decode cX6_haveIt 25 = .ok (.ifCond .lt 7, 3) := by decide +kernel
theorem dX6_haveIt_28 : decode cX6_haveIt 28 = .ok (.iconst 1, 1) := by decide +kernel
theorem dX6_haveIt_29 : decode cX6_haveIt 29 = .ok (.goto 22, 3) := by decide +kernel
theorem dX6_haveIt_32 : decode cX6_haveIt 32 = .ok (.iconst 0, 1) := by decide +kernel
theorem dX6_haveIt_33 : decode cX6_haveIt 33 = .ok (.goto 18, 3) := by decide +kernel
theorem dX6_haveIt_36 : decode cX6_haveIt 36 = .ok (.aload_n 0, 1) := by decide +kernel
theorem dX6_haveIt_37 : decode cX6_haveIt 37 = .ok (.iload_n 3, 1) := by decide +kernel
theorem dX6_haveIt_38 : decode cX6_haveIt 38 = .ok (.iconst 3, 1) := by decide +kernel
theorem dX6_haveIt_39 : decode cX6_haveIt 39 = .ok (.invokevirtual 61, 3) := by decide +kernel
theorem dX6_haveIt_42 : decode cX6_haveIt 42 = .ok (.iload_n 1, 1) := by decide +kernel
theorem dX6_haveIt_43 : decode cX6_haveIt 43 = .ok (.if_icmp .ne 7, 3) := by decide +kernel
theorem dX6_haveIt_46 : decode cX6_haveIt 46 = .ok (.iconst 1, 1) := by decide +kernel
theorem dX6_haveIt_47 : decode cX6_haveIt 47 = .ok (.goto 4, 3) := by decide +kernel
theorem dX6_haveIt_50 : decode cX6_haveIt 50 = .ok (.iconst 0, 1) := by decide +kernel
theorem dX6_haveIt_51 : decode cX6_haveIt 51 = .ok (.iadd, 1) := by decide +kernel
theorem dX6_haveIt_52 : decode cX6_haveIt 52 = .ok (.istore_n 2, 1) := by decide +kernel
theorem dX6_haveIt_53 : decode cX6_haveIt 53 = .ok (.iinc 3 1, 3) := by decide +kernel
theorem dX6_haveIt_56 : decode cX6_haveIt 56 = .ok (.goto (-52), 3) := by decide +kernel
theorem dX6_haveIt_59 : decode cX6_haveIt 59 = .ok (.iload_n 2, 1) := by decide +kernel
theorem dX6_haveIt_60 : decode cX6_haveIt 60 = .ok (.ireturn, 1) := by decide +kernel
theorem dX6_haveBehind_0 : decode cX6_haveBehind 0 = .ok (.aload_n 0, 1) := by decide +kernel
theorem dX6_haveBehind_1 : decode cX6_haveBehind 1 = .ok (.iload_n 2, 1) := by decide +kernel
theorem dX6_haveBehind_2 : decode cX6_haveBehind 2 = .ok (.invokevirtual 103, 3) := by decide +kernel
theorem dX6_haveBehind_5 : decode cX6_haveBehind 5 = .ok (.aload_n 0, 1) := by decide +kernel
theorem dX6_haveBehind_6 : decode cX6_haveBehind 6 = .ok (.iload_n 1, 1) := by decide +kernel
theorem dX6_haveBehind_7 : decode cX6_haveBehind 7 = .ok (.invokevirtual 106, 3) := by decide +kernel
theorem dX6_haveBehind_10 : decode cX6_haveBehind 10 = .ok (.istore_n 3, 1) := by decide +kernel
theorem dX6_haveBehind_11 : decode cX6_haveBehind 11 = .ok (.aload_n 0, 1) := by decide +kernel
theorem dX6_haveBehind_12 : decode cX6_haveBehind 12 = .ok (.invokevirtual 109, 3) := by decide +kernel
theorem dX6_haveBehind_15 : decode cX6_haveBehind 15 = .ok (.iload_n 3, 1) := by decide +kernel
theorem dX6_haveBehind_16 : decode cX6_haveBehind 16 = .ok (.ireturn, 1) := by decide +kernel
theorem dX6_letter_0 : decode cX6_letter 0 = .ok (.iload_n 1, 1) := by decide +kernel
theorem dX6_letter_1 : decode cX6_letter 1 = .ok (.iconst 0, 1) := by decide +kernel
theorem dX6_letter_2 : decode cX6_letter 2 = .ok (.sipush 255, 3) := by decide +kernel
theorem dX6_letter_5 : decode cX6_letter 5 = .ok (.invokestatic 112, 3) := by decide +kernel
theorem dX6_letter_8 : decode cX6_letter 8 = .ok (.istore_n 2, 1) := by decide +kernel
theorem dX6_letter_9 : decode cX6_letter 9 = .ok (.iload_n 2, 1) := by decide +kernel
theorem dX6_letter_10 : decode cX6_letter 10 = .ok (.ifCond .ne 15, 3) := by decide +kernel
theorem dX6_letter_13 : decode cX6_letter 13 = .ok (.aload_n 0, 1) := by decide +kernel
theorem dX6_letter_14 : decode cX6_letter 14 = .ok (.getfield 116, 3) := by decide +kernel
theorem dX6_letter_17 : decode cX6_letter 17 = .ok (.bipush 96, 2) := by decide +kernel
theorem dX6_letter_19 : decode cX6_letter 19 = .ok (.if_icmp .ne 6, 3) := by decide +kernel
theorem dX6_letter_22 : decode cX6_letter 22 = .ok (.bipush (-6), 2) := by decide +kernel
theorem dX6_letter_24 : decode cX6_letter 24 = .ok (.istore_n 2, 1) := by decide +kernel
theorem dX6_letter_25 : decode cX6_letter 25 = .ok (.iload_n 2, 1) := by decide +kernel
theorem dX6_letter_26 : decode cX6_letter 26 = .ok (.ifCond .eq 9, 3) := by decide +kernel
theorem dX6_letter_29 : decode cX6_letter 29 = .ok (.aload_n 0, 1) := by decide +kernel
theorem dX6_letter_30 : decode cX6_letter 30 = .ok (.iload_n 2, 1) := by decide +kernel
theorem dX6_letter_31 : decode cX6_letter 31 = .ok (.invokevirtual 120, 3) := by decide +kernel
theorem dX6_letter_34 : decode cX6_letter 34 = .ok (.ireturn, 1) := by decide +kernel
theorem dX6_letter_35 : decode cX6_letter 35 = .ok (.aload_n 0, 1) := by decide +kernel
theorem dX6_letter_36 : decode cX6_letter 36 = .ok (.getfield 40, 3) := by decide +kernel
theorem dX6_letter_39 : decode cX6_letter 39 = .ok (.aload_n 0, 1) := by decide +kernel
theorem dX6_letter_40 : decode cX6_letter 40 = .ok (.getfield 116, 3) := by decide +kernel
theorem dX6_letter_43 : decode cX6_letter 43 = .ok (.iload_n 1, 1) := by decide +kernel
theorem dX6_letter_44 : decode cX6_letter 44 = .ok (.iastore, 1) := by decide +kernel
theorem dX6_letter_45 : decode cX6_letter 45 = .ok (.aload_n 0, 1) := by decide +kernel
theorem dX6_letter_46 : decode cX6_letter 46 = .ok (.dup, 1) := by decide +kernel
theorem dX6_letter_47 : decode cX6_letter 47 = .ok (.getfield 116, 3) := by decide +kernel
theorem dX6_letter_50 : decode cX6_letter 50 = .ok (.iconst 1, 1) := by decide +kernel
theorem dX6_letter_51 : decode cX6_letter 51 = .ok (.iadd, 1) := by decide +kernel
theorem dX6_letter_52 : decode cX6_letter 52 = .ok (.putfield 116, 3) := by decide +kernel
theorem dX6_letter_55 : decode cX6_letter 55 = .ok (.aload_n 0, 1) := by decide +kernel
theorem dX6_letter_56 : decode cX6_letter 56 = .ok (.getfield 116, 3) := by decide +kernel
theorem dX6_letter_59 : decode cX6_letter 59 = .ok (.ireturn, 1) := by decide +kernel
theorem dX6_sign_0 : decode cX6_sign 0 = .ok (.aload_n 0, 1) := by decide +kernel
theorem dX6_sign_1 : decode cX6_sign 1 = .ok (.getfield 123, 3) := by decide +kernel
theorem dX6_sign_4 : decode cX6_sign 4 = .ok (.aload_n 0, 1) := by decide +kernel
theorem dX6_sign_5 : decode cX6_sign 5 = .ok (.getfield 116, 3) := by decide +kernel
theorem dX6_sign_8 : decode cX6_sign 8 = .ok (.if_icmp .ge 15, 3) := by decide +kernel
theorem dX6_sign_11 : decode cX6_sign 11 = .ok (.aload_n 0, 1) := by decide +kernel
theorem dX6_sign_12 : decode cX6_sign 12 = .ok (.getfield 40, 3) := by decide +kernel
theorem dX6_sign_15 : decode cX6_sign 15 = .ok (.aload_n 0, 1) := by decide +kernel
theorem dX6_sign_16 : decode cX6_sign 16 = .ok (.getfield 123, 3) := by decide +kernel
theorem dX6_sign_19 : decode cX6_sign 19 = .ok (.iaload, 1) := by decide +kernel
theorem dX6_sign_20 : decode cX6_sign 20 = .ok (.goto 4, 3) := by decide +kernel
theorem dX6_sign_23 : decode cX6_sign 23 = .ok (.iconst (-1), 1) := by decide +kernel
theorem dX6_sign_24 : decode cX6_sign 24 = .ok (.ireturn, 1) := by decide +kernel
theorem dX6_takes_0 : decode cX6_takes 0 = .ok (.aload_n 0, 1) := by decide +kernel
theorem dX6_takes_1 : decode cX6_takes 1 = .ok (.invokevirtual 126, 3) := by decide +kernel
theorem dX6_takes_4 : decode cX6_takes 4 = .ok (.iload_n 1, 1) := by decide +kernel
theorem dX6_takes_5 : decode cX6_takes 5 = .ok (.if_icmp .eq 5, 3) := by decide +kernel
theorem dX6_takes_8 : decode cX6_takes 8 = .ok (.iconst 0, 1) := by decide +kernel
theorem dX6_takes_9 : decode cX6_takes 9 = .ok (.ireturn, 1) := by decide +kernel
theorem dX6_takes_10 : decode cX6_takes 10 = .ok (.aload_n 0, 1) := by decide +kernel
theorem dX6_takes_11 : decode cX6_takes 11 = .ok (.dup, 1) := by decide +kernel
theorem dX6_takes_12 : decode cX6_takes 12 = .ok (.getfield 123, 3) := by decide +kernel
theorem dX6_takes_15 : decode cX6_takes 15 = .ok (.iconst 1, 1) := by decide +kernel
theorem dX6_takes_16 : decode cX6_takes 16 = .ok (.iadd, 1) := by decide +kernel
theorem dX6_takes_17 : decode cX6_takes 17 = .ok (.putfield 123, 3) := by decide +kernel
theorem dX6_takes_20 : decode cX6_takes 20 = .ok (.iconst 1, 1) := by decide +kernel
theorem dX6_takes_21 : decode cX6_takes 21 = .ok (.ireturn, 1) := by decide +kernel
theorem dX6_readsNumber_0 : decode cX6_readsNumber 0 = .ok (.aload_n 0, 1) := by decide +kernel
theorem dX6_readsNumber_1 : decode cX6_readsNumber 1 = .ok (.getfield 43, 3) := by decide +kernel
theorem dX6_readsNumber_4 : decode cX6_readsNumber 4 = .ok (.iload_n 1, 1) := by decide +kernel
theorem dX6_readsNumber_5 : decode cX6_readsNumber 5 = .ok (.iconst 0, 1) := by decide +kernel
theorem dX6_readsNumber_6 : decode cX6_readsNumber 6 = .ok (.iastore, 1) := by decide +kernel
theorem dX6_readsNumber_7 : decode cX6_readsNumber 7 = .ok (.iconst 0, 1) := by decide +kernel
theorem dX6_readsNumber_8 : decode cX6_readsNumber 8 = .ok (.istore_n 3, 1) := by decide +kernel
theorem dX6_readsNumber_9 : decode cX6_readsNumber 9 = .ok (.iload_n 3, 1) := by decide +kernel
theorem dX6_readsNumber_10 : decode cX6_readsNumber 10 = .ok (.iload_n 2, 1) := by decide +kernel
theorem dX6_readsNumber_11 : decode cX6_readsNumber 11 = .ok (.if_icmp .ge 57, 3) := by decide +kernel
theorem dX6_readsNumber_14 : decode cX6_readsNumber 14 = .ok (.aload_n 0, 1) := by decide +kernel
theorem dX6_readsNumber_15 : decode cX6_readsNumber 15 = .ok (.invokevirtual 126, 3) := by decide +kernel
theorem dX6_readsNumber_18 : decode cX6_readsNumber 18 = .ok (.bipush 48, 2) := by decide +kernel
theorem dX6_readsNumber_20 : decode cX6_readsNumber 20 = .ok (.isub, 1) := by decide +kernel
theorem dX6_readsNumber_21 : decode cX6_readsNumber 21 = .ok (.bipush 10, 2) := by decide +kernel
theorem dX6_readsNumber_23 : decode cX6_readsNumber 23 = .ok (.invokestatic 53, 3) := by decide +kernel
theorem dX6_readsNumber_26 : decode cX6_readsNumber 26 = .ok (.ifCond .eq 42, 3) := by decide +kernel
theorem dX6_readsNumber_29 : decode cX6_readsNumber 29 = .ok (.aload_n 0, 1) := by decide +kernel
theorem dX6_readsNumber_30 : decode cX6_readsNumber 30 = .ok (.getfield 43, 3) := by decide +kernel
theorem dX6_readsNumber_33 : decode cX6_readsNumber 33 = .ok (.iload_n 1, 1) := by decide +kernel
theorem dX6_readsNumber_34 : decode cX6_readsNumber 34 = .ok (.bipush 10, 2) := by decide +kernel
theorem dX6_readsNumber_36 : decode cX6_readsNumber 36 = .ok (.aload_n 0, 1) := by decide +kernel
theorem dX6_readsNumber_37 : decode cX6_readsNumber 37 = .ok (.getfield 43, 3) := by decide +kernel
theorem dX6_readsNumber_40 : decode cX6_readsNumber 40 = .ok (.iload_n 1, 1) := by decide +kernel
theorem dX6_readsNumber_41 : decode cX6_readsNumber 41 = .ok (.iaload, 1) := by decide +kernel
theorem dX6_readsNumber_42 : decode cX6_readsNumber 42 = .ok (.imul, 1) := by decide +kernel
theorem dX6_readsNumber_43 : decode cX6_readsNumber 43 = .ok (.aload_n 0, 1) := by decide +kernel
theorem dX6_readsNumber_44 : decode cX6_readsNumber 44 = .ok (.invokevirtual 126, 3) := by decide +kernel
theorem dX6_readsNumber_47 : decode cX6_readsNumber 47 = .ok (.iadd, 1) := by decide +kernel
theorem dX6_readsNumber_48 : decode cX6_readsNumber 48 = .ok (.bipush 48, 2) := by decide +kernel
theorem dX6_readsNumber_50 : decode cX6_readsNumber 50 = .ok (.isub, 1) := by decide +kernel
theorem dX6_readsNumber_51 : decode cX6_readsNumber 51 = .ok (.iastore, 1) := by decide +kernel
theorem dX6_readsNumber_52 : decode cX6_readsNumber 52 = .ok (.aload_n 0, 1) := by decide +kernel
theorem dX6_readsNumber_53 : decode cX6_readsNumber 53 = .ok (.dup, 1) := by decide +kernel
theorem dX6_readsNumber_54 : decode cX6_readsNumber 54 = .ok (.getfield 123, 3) := by decide +kernel
theorem dX6_readsNumber_57 : decode cX6_readsNumber 57 = .ok (.iconst 1, 1) := by decide +kernel
theorem dX6_readsNumber_58 : decode cX6_readsNumber 58 = .ok (.iadd, 1) := by decide +kernel
theorem dX6_readsNumber_59 : decode cX6_readsNumber 59 = .ok (.putfield 123, 3) := by decide +kernel
theorem dX6_readsNumber_62 : decode cX6_readsNumber 62 = .ok (.iinc 3 1, 3) := by decide +kernel
theorem dX6_readsNumber_65 : decode cX6_readsNumber 65 = .ok (.goto (-56), 3) := by decide +kernel
theorem dX6_readsNumber_68 : decode cX6_readsNumber 68 = .ok (.iload_n 3, 1) := by decide +kernel
theorem dX6_readsNumber_69 : decode cX6_readsNumber 69 = .ok (.ifCond .le 7, 3) := by decide +kernel
theorem dX6_readsNumber_72 : decode cX6_readsNumber 72 = .ok (.iconst 1, 1) := by decide +kernel
theorem dX6_readsNumber_73 : decode cX6_readsNumber 73 = .ok (.goto 4, 3) := by decide +kernel
theorem dX6_readsNumber_76 : decode cX6_readsNumber 76 = .ok (.iconst 0, 1) := by decide +kernel
theorem dX6_readsNumber_77 : decode cX6_readsNumber 77 = .ok (.ireturn, 1) := by decide +kernel
theorem dX6_songOf_0 : decode cX6_songOf 0 = .ok (.iload_n 0, 1) := by decide +kernel
theorem dX6_songOf_1 : decode cX6_songOf 1 = .ok (.bipush 115, 2) := by decide +kernel
theorem dX6_songOf_3 : decode cX6_songOf 3 = .ok (.if_icmp .ne 7, 3) := by decide +kernel
theorem dX6_songOf_6 : decode cX6_songOf 6 = .ok (.iconst 0, 1) := by decide +kernel
theorem dX6_songOf_7 : decode cX6_songOf 7 = .ok (.goto 55, 3) := by decide +kernel
theorem dX6_songOf_10 : decode cX6_songOf 10 = .ok (.iload_n 0, 1) := by decide +kernel
theorem dX6_songOf_11 : decode cX6_songOf 11 = .ok (.bipush 108, 2) := by decide +kernel
theorem dX6_songOf_13 : decode cX6_songOf 13 = .ok (.if_icmp .ne 7, 3) := by decide +kernel
theorem dX6_songOf_16 : decode cX6_songOf 16 = .ok (.iconst 1, 1) := by decide +kernel
theorem dX6_songOf_17 : decode cX6_songOf 17 = .ok (.goto 45, 3) := by decide +kernel
theorem dX6_songOf_20 : decode cX6_songOf 20 = .ok (.iload_n 0, 1) := by decide +kernel
theorem dX6_songOf_21 : decode cX6_songOf 21 = .ok (.bipush 113, 2) := by decide +kernel
theorem dX6_songOf_23 : decode cX6_songOf 23 = .ok (.if_icmp .ne 7, 3) := by decide +kernel
theorem dX6_songOf_26 : decode cX6_songOf 26 = .ok (.iconst 2, 1) := by decide +kernel
theorem dX6_songOf_27 : decode cX6_songOf 27 = .ok (.goto 35, 3) := by decide +kernel
theorem dX6_songOf_30 : decode cX6_songOf 30 = .ok (.iload_n 0, 1) := by decide +kernel
theorem dX6_songOf_31 : decode cX6_songOf 31 = .ok (.bipush 99, 2) := by decide +kernel
theorem dX6_songOf_33 : decode cX6_songOf 33 = .ok (.if_icmp .ne 7, 3) := by decide +kernel
theorem dX6_songOf_36 : decode cX6_songOf 36 = .ok (.iconst 3, 1) := by decide +kernel
theorem dX6_songOf_37 : decode cX6_songOf 37 = .ok (.goto 25, 3) := by decide +kernel
theorem dX6_songOf_40 : decode cX6_songOf 40 = .ok (.iload_n 0, 1) := by decide +kernel
theorem dX6_songOf_41 : decode cX6_songOf 41 = .ok (.bipush 106, 2) := by decide +kernel
theorem dX6_songOf_43 : decode cX6_songOf 43 = .ok (.if_icmp .ne 7, 3) := by decide +kernel
theorem dX6_songOf_46 : decode cX6_songOf 46 = .ok (.iconst 4, 1) := by decide +kernel
theorem dX6_songOf_47 : decode cX6_songOf 47 = .ok (.goto 15, 3) := by decide +kernel
theorem dX6_songOf_50 : decode cX6_songOf 50 = .ok (.iload_n 0, 1) := by decide +kernel
theorem dX6_songOf_51 : decode cX6_songOf 51 = .ok (.bipush 104, 2) := by decide +kernel
theorem dX6_songOf_53 : decode cX6_songOf 53 = .ok (.if_icmp .ne 7, 3) := by decide +kernel
theorem dX6_songOf_56 : decode cX6_songOf 56 = .ok (.iconst 5, 1) := by decide +kernel
theorem dX6_songOf_57 : decode cX6_songOf 57 = .ok (.goto 5, 3) := by decide +kernel
theorem dX6_songOf_60 : decode cX6_songOf 60 = .ok (.bipush (-9), 2) := by decide +kernel
theorem dX6_songOf_62 : decode cX6_songOf 62 = .ok (.ireturn, 1) := by decide +kernel
theorem dX6_headOf_0 : decode cX6_headOf 0 = .ok (.iload_n 0, 1) := by decide +kernel
theorem dX6_headOf_1 : decode cX6_headOf 1 = .ok (.bipush 104, 2) := by decide +kernel
theorem dX6_headOf_3 : decode cX6_headOf 3 = .ok (.if_icmp .ne 7, 3) := by decide +kernel
theorem dX6_headOf_6 : decode cX6_headOf 6 = .ok (.iconst 0, 1) := by decide +kernel
theorem dX6_headOf_7 : decode cX6_headOf 7 = .ok (.goto 55, 3) := by decide +kernel
theorem dX6_headOf_10 : decode cX6_headOf 10 = .ok (.iload_n 0, 1) := by decide +kernel
theorem dX6_headOf_11 : decode cX6_headOf 11 = .ok (.bipush 119, 2) := by decide +kernel
theorem dX6_headOf_13 : decode cX6_headOf 13 = .ok (.if_icmp .ne 7, 3) := by decide +kernel
theorem dX6_headOf_16 : decode cX6_headOf 16 = .ok (.iconst 1, 1) := by decide +kernel
theorem dX6_headOf_17 : decode cX6_headOf 17 = .ok (.goto 45, 3) := by decide +kernel
theorem dX6_headOf_20 : decode cX6_headOf 20 = .ok (.iload_n 0, 1) := by decide +kernel
theorem dX6_headOf_21 : decode cX6_headOf 21 = .ok (.bipush 100, 2) := by decide +kernel
theorem dX6_headOf_23 : decode cX6_headOf 23 = .ok (.if_icmp .ne 7, 3) := by decide +kernel
theorem dX6_headOf_26 : decode cX6_headOf 26 = .ok (.iconst 2, 1) := by decide +kernel
theorem dX6_headOf_27 : decode cX6_headOf 27 = .ok (.goto 35, 3) := by decide +kernel
theorem dX6_headOf_30 : decode cX6_headOf 30 = .ok (.iload_n 0, 1) := by decide +kernel
theorem dX6_headOf_31 : decode cX6_headOf 31 = .ok (.bipush 116, 2) := by decide +kernel
theorem dX6_headOf_33 : decode cX6_headOf 33 = .ok (.if_icmp .ne 7, 3) := by decide +kernel
theorem dX6_headOf_36 : decode cX6_headOf 36 = .ok (.iconst 3, 1) := by decide +kernel
theorem dX6_headOf_37 : decode cX6_headOf 37 = .ok (.goto 25, 3) := by decide +kernel
theorem dX6_headOf_40 : decode cX6_headOf 40 = .ok (.iload_n 0, 1) := by decide +kernel
theorem dX6_headOf_41 : decode cX6_headOf 41 = .ok (.bipush 98, 2) := by decide +kernel
theorem dX6_headOf_43 : decode cX6_headOf 43 = .ok (.if_icmp .ne 7, 3) := by decide +kernel
theorem dX6_headOf_46 : decode cX6_headOf 46 = .ok (.iconst 4, 1) := by decide +kernel
theorem dX6_headOf_47 : decode cX6_headOf 47 = .ok (.goto 15, 3) := by decide +kernel
theorem dX6_headOf_50 : decode cX6_headOf 50 = .ok (.iload_n 0, 1) := by decide +kernel
theorem dX6_headOf_51 : decode cX6_headOf 51 = .ok (.bipush 121, 2) := by decide +kernel
theorem dX6_headOf_53 : decode cX6_headOf 53 = .ok (.if_icmp .ne 7, 3) := by decide +kernel
theorem dX6_headOf_56 : decode cX6_headOf 56 = .ok (.iconst 5, 1) := by decide +kernel
theorem dX6_headOf_57 : decode cX6_headOf 57 = .ok (.goto 5, 3) := by decide +kernel
theorem dX6_headOf_60 : decode cX6_headOf 60 = .ok (.bipush (-9), 2) := by decide +kernel
theorem dX6_headOf_62 : decode cX6_headOf 62 = .ok (.ireturn, 1) := by decide +kernel
theorem dX6_readsKind_0 : decode cX6_readsKind 0 = .ok (.aload_n 0, 1) := by decide +kernel
theorem dX6_readsKind_1 : decode cX6_readsKind 1 = .ok (.getfield 43, 3) := by decide +kernel
theorem dX6_readsKind_4 : decode cX6_readsKind 4 = .ok (.iconst 0, 1) := by decide +kernel
theorem dX6_readsKind_5 : decode cX6_readsKind 5 = .ok (.iload_n 1, 1) := by decide +kernel
theorem dX6_readsKind_6 : decode cX6_readsKind 6 = .ok (.iastore, 1) := by decide +kernel
theorem dX6_readsKind_7 : decode cX6_readsKind 7 = .ok (.iload_n 1, 1) := by decide +kernel
theorem dX6_readsKind_8 : decode cX6_readsKind 8 = .ok (.ifCond .ge 5, 3) := by decide +kernel
theorem dX6_readsKind_11 : decode cX6_readsKind 11 = .ok (.iconst 0, 1) := by decide +kernel
theorem dX6_readsKind_12 : decode cX6_readsKind 12 = .ok (.ireturn, 1) := by decide +kernel
theorem dX6_readsKind_13 : decode cX6_readsKind 13 = .ok (.aload_n 0, 1) := by decide +kernel
theorem dX6_readsKind_14 : decode cX6_readsKind 14 = .ok (.dup, 1) := by decide +kernel
theorem dX6_readsKind_15 : decode cX6_readsKind 15 = .ok (.getfield 123, 3) := by decide +kernel
theorem dX6_readsKind_18 : decode cX6_readsKind 18 = .ok (.iconst 1, 1) := by decide +kernel
theorem dX6_readsKind_19 : decode cX6_readsKind 19 = .ok (.iadd, 1) := by decide +kernel
theorem dX6_readsKind_20 : decode cX6_readsKind 20 = .ok (.putfield 123, 3) := by decide +kernel
theorem dX6_readsKind_23 : decode cX6_readsKind 23 = .ok (.aload_n 0, 1) := by decide +kernel
theorem dX6_readsKind_24 : decode cX6_readsKind 24 = .ok (.iconst 1, 1) := by decide +kernel
theorem dX6_readsKind_25 : decode cX6_readsKind 25 = .ok (.iconst 1, 1) := by decide +kernel
theorem dX6_readsKind_26 : decode cX6_readsKind 26 = .ok (.invokevirtual 129, 3) := by decide +kernel
theorem dX6_readsKind_29 : decode cX6_readsKind 29 = .ok (.ifCond .eq 16, 3) := by decide +kernel
theorem dX6_readsKind_32 : decode cX6_readsKind 32 = .ok (.aload_n 0, 1) := by decide +kernel
theorem dX6_readsKind_33 : decode cX6_readsKind 33 = .ok (.iconst 2, 1) := by decide +kernel
theorem dX6_readsKind_34 : decode cX6_readsKind 34 = .ok (.iconst 1, 1) := by decide +kernel
theorem dX6_readsKind_35 : decode cX6_readsKind 35 = .ok (.invokevirtual 129, 3) := by decide +kernel
theorem dX6_readsKind_38 : decode cX6_readsKind 38 = .ok (.ifCond .eq 7, 3) := by decide +kernel
theorem dX6_readsKind_41 : decode cX6_readsKind 41 = .ok (.iconst 1, 1) := by decide +kernel
theorem dX6_readsKind_42 : decode cX6_readsKind 42 = .ok (.goto 4, 3) := by decide +kernel
theorem dX6_readsKind_45 : decode cX6_readsKind 45 = .ok (.iconst 0, 1) := by decide +kernel
theorem dX6_readsKind_46 : decode cX6_readsKind 46 = .ok (.ireturn, 1) := by decide +kernel
theorem dX6_readsStatement_0 : decode cX6_readsStatement 0 = .ok (.aload_n 0, 1) := by decide +kernel
theorem dX6_readsStatement_1 : decode cX6_readsStatement 1 = .ok (.invokevirtual 126, 3) := by decide +kernel
theorem dX6_readsStatement_4 : decode cX6_readsStatement 4 = .ok (.istore_n 1, 1) := by decide +kernel
theorem dX6_readsStatement_5 : decode cX6_readsStatement 5 = .ok (.iconst 0, 1) := by decide +kernel
theorem dX6_readsStatement_6 : decode cX6_readsStatement 6 = .ok (.istore_n 2, 1) := by decide +kernel
theorem dX6_readsStatement_7 : decode cX6_readsStatement 7 = .ok (.aload_n 0, 1) := by decide +kernel
theorem dX6_readsStatement_8 : decode cX6_readsStatement 8 = .ok (.dup, 1) := by decide +kernel
theorem dX6_readsStatement_9 : decode cX6_readsStatement 9 = .ok (.getfield 123, 3) := by decide +kernel
theorem dX6_readsStatement_12 : decode cX6_readsStatement 12 = .ok (.iconst 1, 1) := by decide +kernel
theorem dX6_readsStatement_13 : decode cX6_readsStatement 13 = .ok (.iadd, 1) := by decide +kernel
theorem dX6_readsStatement_14 : decode cX6_readsStatement 14 = .ok (.putfield 123, 3) := by decide +kernel
theorem dX6_readsStatement_17 : decode cX6_readsStatement 17 = .ok (.iload_n 1, 1) := by decide +kernel
theorem dX6_readsStatement_18 : decode cX6_readsStatement 18 = .ok (.lookupswitch 117 #[(100, 50), (103, 50), (104, 92), (111, 107), (115, 77)], 50) := by decide +kernel
theorem dX6_readsStatement_68 : decode cX6_readsStatement 68 = .ok (.aload_n 0, 1) := by decide +kernel
theorem dX6_readsStatement_69 : decode cX6_readsStatement 69 = .ok (.iconst 0, 1) := by decide +kernel
theorem dX6_readsStatement_70 : decode cX6_readsStatement 70 = .ok (.iconst 1, 1) := by decide +kernel
theorem dX6_readsStatement_71 : decode cX6_readsStatement 71 = .ok (.invokevirtual 129, 3) := by decide +kernel
theorem dX6_readsStatement_74 : decode cX6_readsStatement 74 = .ok (.ifCond .eq 16, 3) := by decide +kernel
theorem dX6_readsStatement_77 : decode cX6_readsStatement 77 = .ok (.aload_n 0, 1) := by decide +kernel
theorem dX6_readsStatement_78 : decode cX6_readsStatement 78 = .ok (.iconst 1, 1) := by decide +kernel
theorem dX6_readsStatement_79 : decode cX6_readsStatement 79 = .ok (.iconst 1, 1) := by decide +kernel
theorem dX6_readsStatement_80 : decode cX6_readsStatement 80 = .ok (.invokevirtual 129, 3) := by decide +kernel
theorem dX6_readsStatement_83 : decode cX6_readsStatement 83 = .ok (.ifCond .eq 7, 3) := by decide +kernel
theorem dX6_readsStatement_86 : decode cX6_readsStatement 86 = .ok (.iconst 1, 1) := by decide +kernel
theorem dX6_readsStatement_87 : decode cX6_readsStatement 87 = .ok (.goto 4, 3) := by decide +kernel
theorem dX6_readsStatement_90 : decode cX6_readsStatement 90 = .ok (.iconst 0, 1) := by decide +kernel
theorem dX6_readsStatement_91 : decode cX6_readsStatement 91 = .ok (.istore_n 2, 1) := by decide +kernel
theorem dX6_readsStatement_92 : decode cX6_readsStatement 92 = .ok (.goto 55, 3) := by decide +kernel
theorem dX6_readsStatement_95 : decode cX6_readsStatement 95 = .ok (.aload_n 0, 1) := by decide +kernel
theorem dX6_readsStatement_96 : decode cX6_readsStatement 96 = .ok (.aload_n 0, 1) := by decide +kernel
theorem dX6_readsStatement_97 : decode cX6_readsStatement 97 = .ok (.invokevirtual 126, 3) := by decide +kernel
theorem dX6_readsStatement_100 : decode cX6_readsStatement 100 = .ok (.invokestatic 132, 3) := by decide +kernel
theorem dX6_readsStatement_103 : decode cX6_readsStatement 103 = .ok (.invokevirtual 135, 3) := by decide +kernel
theorem dX6_readsStatement_106 : decode cX6_readsStatement 106 = .ok (.istore_n 2, 1) := by decide +kernel
theorem dX6_readsStatement_107 : decode cX6_readsStatement 107 = .ok (.goto 40, 3) := by decide +kernel
theorem dX6_readsStatement_110 : decode cX6_readsStatement 110 = .ok (.aload_n 0, 1) := by decide +kernel
theorem dX6_readsStatement_111 : decode cX6_readsStatement 111 = .ok (.aload_n 0, 1) := by decide +kernel
theorem dX6_readsStatement_112 : decode cX6_readsStatement 112 = .ok (.invokevirtual 126, 3) := by decide +kernel
theorem dX6_readsStatement_115 : decode cX6_readsStatement 115 = .ok (.invokestatic 138, 3) := by decide +kernel
theorem dX6_readsStatement_118 : decode cX6_readsStatement 118 = .ok (.invokevirtual 135, 3) := by decide +kernel
theorem dX6_readsStatement_121 : decode cX6_readsStatement 121 = .ok (.istore_n 2, 1) := by decide +kernel
theorem dX6_readsStatement_122 : decode cX6_readsStatement 122 = .ok (.goto 25, 3) := by decide +kernel
theorem dX6_readsStatement_125 : decode cX6_readsStatement 125 = .ok (.aload_n 0, 1) := by decide +kernel
theorem dX6_readsStatement_126 : decode cX6_readsStatement 126 = .ok (.iconst 0, 1) := by decide +kernel
theorem dX6_readsStatement_127 : decode cX6_readsStatement 127 = .ok (.iconst 2, 1) := by decide +kernel
theorem dX6_readsStatement_128 : decode cX6_readsStatement 128 = .ok (.invokevirtual 129, 3) := by decide +kernel
theorem dX6_readsStatement_131 : decode cX6_readsStatement 131 = .ok (.istore_n 2, 1) := by decide +kernel
theorem dX6_readsStatement_132 : decode cX6_readsStatement 132 = .ok (.goto 15, 3) := by decide +kernel
theorem dX6_readsStatement_135 : decode cX6_readsStatement 135 = .ok (.aload_n 0, 1) := by decide +kernel
theorem dX6_readsStatement_136 : decode cX6_readsStatement 136 = .ok (.dup, 1) := by decide +kernel
theorem dX6_readsStatement_137 : decode cX6_readsStatement 137 = .ok (.getfield 123, 3) := by decide +kernel
theorem dX6_readsStatement_140 : decode cX6_readsStatement 140 = .ok (.iconst 1, 1) := by decide +kernel
theorem dX6_readsStatement_141 : decode cX6_readsStatement 141 = .ok (.isub, 1) := by decide +kernel
theorem dX6_readsStatement_142 : decode cX6_readsStatement 142 = .ok (.putfield 123, 3) := by decide +kernel
theorem dX6_readsStatement_145 : decode cX6_readsStatement 145 = .ok (.iconst 0, 1) := by decide +kernel
theorem dX6_readsStatement_146 : decode cX6_readsStatement 146 = .ok (.ireturn, 1) := by decide +kernel
theorem dX6_readsStatement_147 : decode cX6_readsStatement 147 = .ok (.iload_n 2, 1) := by decide +kernel
theorem dX6_readsStatement_148 : decode cX6_readsStatement 148 = .ok (.ifCond .eq 16, 3) := by decide +kernel
theorem dX6_readsStatement_151 : decode cX6_readsStatement 151 = .ok (.aload_n 0, 1) := by decide +kernel
theorem dX6_readsStatement_152 : decode cX6_readsStatement 152 = .ok (.bipush 59, 2) := by decide +kernel
theorem dX6_readsStatement_154 : decode cX6_readsStatement 154 = .ok (.invokevirtual 141, 3) := by decide +kernel
theorem dX6_readsStatement_157 : decode cX6_readsStatement 157 = .ok (.ifCond .eq 7, 3) := by decide +kernel
theorem dX6_readsStatement_160 : decode cX6_readsStatement 160 = .ok (.iconst 1, 1) := by decide +kernel
theorem dX6_readsStatement_161 : decode cX6_readsStatement 161 = .ok (.goto 4, 3) := by decide +kernel
theorem dX6_readsStatement_164 : decode cX6_readsStatement 164 = .ok (.iconst 0, 1) := by decide +kernel
theorem dX6_readsStatement_165 : decode cX6_readsStatement 165 = .ok (.ireturn, 1) := by decide +kernel
theorem dX6_comes_0 : decode cX6_comes 0 = .ok (.aload_n 0, 1) := by decide +kernel
theorem dX6_comes_1 : decode cX6_comes 1 = .ok (.getfield 43, 3) := by decide +kernel
theorem dX6_comes_4 : decode cX6_comes 4 = .ok (.iconst 0, 1) := by decide +kernel
theorem dX6_comes_5 : decode cX6_comes 5 = .ok (.iaload, 1) := by decide +kernel
theorem dX6_comes_6 : decode cX6_comes 6 = .ok (.istore_n 2, 1) := by decide +kernel
theorem dX6_comes_7 : decode cX6_comes 7 = .ok (.aload_n 0, 1) := by decide +kernel
theorem dX6_comes_8 : decode cX6_comes 8 = .ok (.getfield 43, 3) := by decide +kernel
theorem dX6_comes_11 : decode cX6_comes 11 = .ok (.iconst 1, 1) := by decide +kernel
theorem dX6_comes_12 : decode cX6_comes 12 = .ok (.iaload, 1) := by decide +kernel
theorem dX6_comes_13 : decode cX6_comes 13 = .ok (.istore_n 3, 1) := by decide +kernel
theorem dX6_comes_14 : decode cX6_comes 14 = .ok (.iload_n 1, 1) := by decide +kernel
theorem dX6_comes_15 : decode cX6_comes 15 = .ok (.lookupswitch 336 #[(100, 41), (103, 310), (104, 209), (115, 134)], 41) := by decide +kernel
theorem dX6_comes_56 : decode cX6_comes 56 = .ok (.iload_n 2, 1) := by decide +kernel
theorem dX6_comes_57 : decode cX6_comes 57 = .ok (.iconst 5, 1) := by decide +kernel
theorem dX6_comes_58 : decode cX6_comes 58 = .ok (.if_icmp .ge 24, 3) := by decide +kernel
theorem dX6_comes_61 : decode cX6_comes 61 = .ok (.iload_n 3, 1) := by decide +kernel
theorem dX6_comes_62 : decode cX6_comes 62 = .ok (.iconst 5, 1) := by decide +kernel
theorem dX6_comes_63 : decode cX6_comes 63 = .ok (.if_icmp .ge 19, 3) := by decide +kernel
theorem dX6_comes_66 : decode cX6_comes 66 = .ok (.iload_n 2, 1) := by decide +kernel
theorem dX6_comes_67 : decode cX6_comes 67 = .ok (.iload_n 3, 1) := by decide +kernel
theorem dX6_comes_68 : decode cX6_comes 68 = .ok (.if_icmp .eq 14, 3) := by decide +kernel
theorem dX6_comes_71 : decode cX6_comes 71 = .ok (.aload_n 0, 1) := by decide +kernel
theorem dX6_comes_72 : decode cX6_comes 72 = .ok (.getfield 13, 3) := by decide +kernel
theorem dX6_comes_75 : decode cX6_comes 75 = .ok (.iconst 0, 1) := by decide +kernel
theorem dX6_comes_76 : decode cX6_comes 76 = .ok (.iaload, 1) := by decide +kernel
theorem dX6_comes_77 : decode cX6_comes 77 = .ok (.bipush 8, 2) := by decide +kernel
theorem dX6_comes_79 : decode cX6_comes 79 = .ok (.if_icmp .ne 5, 3) := by decide +kernel
theorem dX6_comes_82 : decode cX6_comes 82 = .ok (.iconst 0, 1) := by decide +kernel
theorem dX6_comes_83 : decode cX6_comes 83 = .ok (.ireturn, 1) := by decide +kernel
theorem dX6_comes_84 : decode cX6_comes 84 = .ok (.aload_n 0, 1) := by decide +kernel
theorem dX6_comes_85 : decode cX6_comes 85 = .ok (.getfield 13, 3) := by decide +kernel
theorem dX6_comes_88 : decode cX6_comes 88 = .ok (.bipush 6, 2) := by decide +kernel
theorem dX6_comes_90 : decode cX6_comes 90 = .ok (.iconst 2, 1) := by decide +kernel
theorem dX6_comes_91 : decode cX6_comes 91 = .ok (.aload_n 0, 1) := by decide +kernel
theorem dX6_comes_92 : decode cX6_comes 92 = .ok (.getfield 13, 3) := by decide +kernel
theorem dX6_comes_95 : decode cX6_comes 95 = .ok (.iconst 0, 1) := by decide +kernel
theorem dX6_comes_96 : decode cX6_comes 96 = .ok (.iaload, 1) := by decide +kernel
theorem dX6_comes_97 : decode cX6_comes 97 = .ok (.imul, 1) := by decide +kernel
theorem dX6_comes_98 : decode cX6_comes 98 = .ok (.iadd, 1) := by decide +kernel
theorem dX6_comes_99 : decode cX6_comes 99 = .ok (.iload_n 2, 1) := by decide +kernel
theorem dX6_comes_100 : decode cX6_comes 100 = .ok (.iastore, 1) := by decide +kernel
theorem dX6_comes_101 : decode cX6_comes 101 = .ok (.aload_n 0, 1) := by decide +kernel
theorem dX6_comes_102 : decode cX6_comes 102 = .ok (.getfield 13, 3) := by decide +kernel
theorem dX6_comes_105 : decode cX6_comes 105 = .ok (.bipush 6, 2) := by decide +kernel
theorem dX6_comes_107 : decode cX6_comes 107 = .ok (.iconst 2, 1) := by decide +kernel
theorem dX6_comes_108 : decode cX6_comes 108 = .ok (.aload_n 0, 1) := by decide +kernel
theorem dX6_comes_109 : decode cX6_comes 109 = .ok (.getfield 13, 3) := by decide +kernel
theorem dX6_comes_112 : decode cX6_comes 112 = .ok (.iconst 0, 1) := by decide +kernel
theorem dX6_comes_113 : decode cX6_comes 113 = .ok (.iaload, 1) := by decide +kernel
theorem dX6_comes_114 : decode cX6_comes 114 = .ok (.imul, 1) := by decide +kernel
theorem dX6_comes_115 : decode cX6_comes 115 = .ok (.iadd, 1) := by decide +kernel
theorem dX6_comes_116 : decode cX6_comes 116 = .ok (.iconst 1, 1) := by decide +kernel
theorem dX6_comes_117 : decode cX6_comes 117 = .ok (.iadd, 1) := by decide +kernel
theorem dX6_comes_118 : decode cX6_comes 118 = .ok (.iload_n 3, 1) := by decide +kernel
theorem dX6_comes_119 : decode cX6_comes 119 = .ok (.iastore, 1) := by decide +kernel
theorem dX6_comes_120 : decode cX6_comes 120 = .ok (.aload_n 0, 1) := by decide +kernel
theorem dX6_comes_121 : decode cX6_comes 121 = .ok (.getfield 13, 3) := by decide +kernel
theorem dX6_comes_124 : decode cX6_comes 124 = .ok (.iconst 1, 1) := by decide +kernel
theorem dX6_comes_125 : decode cX6_comes 125 = .ok (.dup2, 1) := by decide +kernel
theorem dX6_comes_126 : decode cX6_comes 126 = .ok (.iaload, 1) := by decide +kernel
theorem dX6_comes_127 : decode cX6_comes 127 = .ok (.iconst 1, 1) := by decide +kernel
theorem dX6_comes_128 : decode cX6_comes 128 = .ok (.aload_n 0, 1) := by decide +kernel
theorem dX6_comes_129 : decode cX6_comes 129 = .ok (.getfield 13, 3) := by decide +kernel
theorem dX6_comes_132 : decode cX6_comes 132 = .ok (.iconst 0, 1) := by decide +kernel
theorem dX6_comes_133 : decode cX6_comes 133 = .ok (.iaload, 1) := by decide +kernel
theorem dX6_comes_134 : decode cX6_comes 134 = .ok (.ishl, 1) := by decide +kernel
theorem dX6_comes_135 : decode cX6_comes 135 = .ok (.ior, 1) := by decide +kernel
theorem dX6_comes_136 : decode cX6_comes 136 = .ok (.iastore, 1) := by decide +kernel
theorem dX6_comes_137 : decode cX6_comes 137 = .ok (.aload_n 0, 1) := by decide +kernel
theorem dX6_comes_138 : decode cX6_comes 138 = .ok (.getfield 13, 3) := by decide +kernel
theorem dX6_comes_141 : decode cX6_comes 141 = .ok (.iconst 0, 1) := by decide +kernel
theorem dX6_comes_142 : decode cX6_comes 142 = .ok (.dup2, 1) := by decide +kernel
theorem dX6_comes_143 : decode cX6_comes 143 = .ok (.iaload, 1) := by decide +kernel
theorem dX6_comes_144 : decode cX6_comes 144 = .ok (.iconst 1, 1) := by decide +kernel
theorem dX6_comes_145 : decode cX6_comes 145 = .ok (.iadd, 1) := by decide +kernel
theorem dX6_comes_146 : decode cX6_comes 146 = .ok (.iastore, 1) := by decide +kernel
theorem dX6_comes_147 : decode cX6_comes 147 = .ok (.iconst 1, 1) := by decide +kernel
theorem dX6_comes_148 : decode cX6_comes 148 = .ok (.ireturn, 1) := by decide +kernel
theorem dX6_comes_149 : decode cX6_comes 149 = .ok (.aload_n 0, 1) := by decide +kernel
theorem dX6_comes_150 : decode cX6_comes 150 = .ok (.getfield 43, 3) := by decide +kernel
theorem dX6_comes_153 : decode cX6_comes 153 = .ok (.iconst 2, 1) := by decide +kernel
theorem dX6_comes_154 : decode cX6_comes 154 = .ok (.iaload, 1) := by decide +kernel
theorem dX6_comes_155 : decode cX6_comes 155 = .ok (.iconst 1, 1) := by decide +kernel
theorem dX6_comes_156 : decode cX6_comes 156 = .ok (.if_icmp .lt 13, 3) := by decide +kernel
theorem dX6_comes_159 : decode cX6_comes 159 = .ok (.aload_n 0, 1) := by decide +kernel
theorem dX6_comes_160 : decode cX6_comes 160 = .ok (.getfield 13, 3) := by decide +kernel
theorem dX6_comes_163 : decode cX6_comes 163 = .ok (.iconst 2, 1) := by decide +kernel
theorem dX6_comes_164 : decode cX6_comes 164 = .ok (.iaload, 1) := by decide +kernel
theorem dX6_comes_165 : decode cX6_comes 165 = .ok (.iconst 5, 1) := by decide +kernel
theorem dX6_comes_166 : decode cX6_comes 166 = .ok (.if_icmp .ne 5, 3) := by decide +kernel
theorem dX6_comes_169 : decode cX6_comes 169 = .ok (.iconst 0, 1) := by decide +kernel
theorem dX6_comes_170 : decode cX6_comes 170 = .ok (.ireturn, 1) := by decide +kernel
theorem dX6_comes_171 : decode cX6_comes 171 = .ok (.iconst 0, 1) := by decide +kernel
theorem dX6_comes_172 : decode cX6_comes 172 = .ok (.istore 4, 2) := by decide +kernel
theorem dX6_comes_174 : decode cX6_comes 174 = .ok (.iload 4, 2) := by decide +kernel
theorem dX6_comes_176 : decode cX6_comes 176 = .ok (.iconst 3, 1) := by decide +kernel
theorem dX6_comes_177 : decode cX6_comes 177 = .ok (.if_icmp .ge 35, 3) := by decide +kernel
theorem dX6_comes_180 : decode cX6_comes 180 = .ok (.aload_n 0, 1) := by decide +kernel
theorem dX6_comes_181 : decode cX6_comes 181 = .ok (.getfield 13, 3) := by decide +kernel
theorem dX6_comes_184 : decode cX6_comes 184 = .ok (.bipush 22, 2) := by decide +kernel
theorem dX6_comes_186 : decode cX6_comes 186 = .ok (.iconst 3, 1) := by decide +kernel
theorem dX6_comes_187 : decode cX6_comes 187 = .ok (.aload_n 0, 1) := by decide +kernel
theorem dX6_comes_188 : decode cX6_comes 188 = .ok (.getfield 13, 3) := by decide +kernel
theorem dX6_comes_191 : decode cX6_comes 191 = .ok (.iconst 2, 1) := by decide +kernel
theorem dX6_comes_192 : decode cX6_comes 192 = .ok (.iaload, 1) := by decide +kernel
theorem dX6_comes_193 : decode cX6_comes 193 = .ok (.imul, 1) := by decide +kernel
theorem dX6_comes_194 : decode cX6_comes 194 = .ok (.iadd, 1) := by decide +kernel
theorem dX6_comes_195 : decode cX6_comes 195 = .ok (.iload 4, 2) := by decide +kernel
theorem dX6_comes_197 : decode cX6_comes 197 = .ok (.iadd, 1) := by decide +kernel
theorem dX6_comes_198 : decode cX6_comes 198 = .ok (.aload_n 0, 1) := by decide +kernel
theorem dX6_comes_199 : decode cX6_comes 199 = .ok (.getfield 43, 3) := by decide +kernel
theorem dX6_comes_202 : decode cX6_comes 202 = .ok (.iload 4, 2) := by decide +kernel
theorem dX6_comes_204 : decode cX6_comes 204 = .ok (.iaload, 1) := by decide +kernel
theorem dX6_comes_205 : decode cX6_comes 205 = .ok (.iastore, 1) := by decide +kernel
theorem dX6_comes_206 : decode cX6_comes 206 = .ok (.iinc 4 1, 3) := by decide +kernel
theorem dX6_comes_209 : decode cX6_comes 209 = .ok (.goto (-35), 3) := by decide +kernel
theorem dX6_comes_212 : decode cX6_comes 212 = .ok (.aload_n 0, 1) := by decide +kernel
theorem dX6_comes_213 : decode cX6_comes 213 = .ok (.getfield 13, 3) := by decide +kernel
theorem dX6_comes_216 : decode cX6_comes 216 = .ok (.iconst 2, 1) := by decide +kernel
theorem dX6_comes_217 : decode cX6_comes 217 = .ok (.dup2, 1) := by decide +kernel
theorem dX6_comes_218 : decode cX6_comes 218 = .ok (.iaload, 1) := by decide +kernel
theorem dX6_comes_219 : decode cX6_comes 219 = .ok (.iconst 1, 1) := by decide +kernel
theorem dX6_comes_220 : decode cX6_comes 220 = .ok (.iadd, 1) := by decide +kernel
theorem dX6_comes_221 : decode cX6_comes 221 = .ok (.iastore, 1) := by decide +kernel
theorem dX6_comes_222 : decode cX6_comes 222 = .ok (.iconst 1, 1) := by decide +kernel
theorem dX6_comes_223 : decode cX6_comes 223 = .ok (.ireturn, 1) := by decide +kernel
theorem dX6_comes_224 : decode cX6_comes 224 = .ok (.iload_n 3, 1) := by decide +kernel
theorem dX6_comes_225 : decode cX6_comes 225 = .ok (.iconst 5, 1) := by decide +kernel
theorem dX6_comes_226 : decode cX6_comes 226 = .ok (.if_icmp .ge 14, 3) := by decide +kernel
theorem dX6_comes_229 : decode cX6_comes 229 = .ok (.aload_n 0, 1) := by decide +kernel
theorem dX6_comes_230 : decode cX6_comes 230 = .ok (.getfield 13, 3) := by decide +kernel
theorem dX6_comes_233 : decode cX6_comes 233 = .ok (.iconst 3, 1) := by decide +kernel
theorem dX6_comes_234 : decode cX6_comes 234 = .ok (.iaload, 1) := by decide +kernel
theorem dX6_comes_235 : decode cX6_comes 235 = .ok (.bipush 6, 2) := by decide +kernel
theorem dX6_comes_237 : decode cX6_comes 237 = .ok (.if_icmp .ne 5, 3) := by decide +kernel
theorem dX6_comes_240 : decode cX6_comes 240 = .ok (.iconst 0, 1) := by decide +kernel
theorem dX6_comes_241 : decode cX6_comes 241 = .ok (.ireturn, 1) := by decide +kernel
theorem dX6_comes_242 : decode cX6_comes 242 = .ok (.iconst 0, 1) := by decide +kernel
theorem dX6_comes_243 : decode cX6_comes 243 = .ok (.istore 4, 2) := by decide +kernel
theorem dX6_comes_245 : decode cX6_comes 245 = .ok (.iload 4, 2) := by decide +kernel
theorem dX6_comes_247 : decode cX6_comes 247 = .ok (.iconst 3, 1) := by decide +kernel
theorem dX6_comes_248 : decode cX6_comes 248 = .ok (.if_icmp .ge 28, 3) := by decide +kernel
theorem dX6_comes_251 : decode cX6_comes 251 = .ok (.aload_n 0, 1) := by decide +kernel
theorem dX6_comes_252 : decode cX6_comes 252 = .ok (.aload_n 0, 1) := by decide +kernel
theorem dX6_comes_253 : decode cX6_comes 253 = .ok (.getfield 13, 3) := by decide +kernel
theorem dX6_comes_256 : decode cX6_comes 256 = .ok (.iconst 3, 1) := by decide +kernel
theorem dX6_comes_257 : decode cX6_comes 257 = .ok (.iaload, 1) := by decide +kernel
theorem dX6_comes_258 : decode cX6_comes 258 = .ok (.iload 4, 2) := by decide +kernel
theorem dX6_comes_260 : decode cX6_comes 260 = .ok (.aload_n 0, 1) := by decide +kernel
theorem dX6_comes_261 : decode cX6_comes 261 = .ok (.getfield 43, 3) := by decide +kernel
theorem dX6_comes_264 : decode cX6_comes 264 = .ok (.iload 4, 2) := by decide +kernel
theorem dX6_comes_266 : decode cX6_comes 266 = .ok (.iaload, 1) := by decide +kernel
theorem dX6_comes_267 : decode cX6_comes 267 = .ok (.invokevirtual 64, 3) := by decide +kernel
theorem dX6_comes_270 : decode cX6_comes 270 = .ok (.iinc 4 1, 3) := by decide +kernel
theorem dX6_comes_273 : decode cX6_comes 273 = .ok (.goto (-28), 3) := by decide +kernel
theorem dX6_comes_276 : decode cX6_comes 276 = .ok (.aload_n 0, 1) := by decide +kernel
theorem dX6_comes_277 : decode cX6_comes 277 = .ok (.aload_n 0, 1) := by decide +kernel
theorem dX6_comes_278 : decode cX6_comes 278 = .ok (.getfield 13, 3) := by decide +kernel
theorem dX6_comes_281 : decode cX6_comes 281 = .ok (.iconst 3, 1) := by decide +kernel
theorem dX6_comes_282 : decode cX6_comes 282 = .ok (.iaload, 1) := by decide +kernel
theorem dX6_comes_283 : decode cX6_comes 283 = .ok (.iconst 3, 1) := by decide +kernel
theorem dX6_comes_284 : decode cX6_comes 284 = .ok (.bipush (-9), 2) := by decide +kernel
theorem dX6_comes_286 : decode cX6_comes 286 = .ok (.invokevirtual 64, 3) := by decide +kernel
theorem dX6_comes_289 : decode cX6_comes 289 = .ok (.aload_n 0, 1) := by decide +kernel
theorem dX6_comes_290 : decode cX6_comes 290 = .ok (.aload_n 0, 1) := by decide +kernel
theorem dX6_comes_291 : decode cX6_comes 291 = .ok (.getfield 13, 3) := by decide +kernel
theorem dX6_comes_294 : decode cX6_comes 294 = .ok (.iconst 3, 1) := by decide +kernel
theorem dX6_comes_295 : decode cX6_comes 295 = .ok (.iaload, 1) := by decide +kernel
theorem dX6_comes_296 : decode cX6_comes 296 = .ok (.iconst 4, 1) := by decide +kernel
theorem dX6_comes_297 : decode cX6_comes 297 = .ok (.iconst 0, 1) := by decide +kernel
theorem dX6_comes_298 : decode cX6_comes 298 = .ok (.invokevirtual 64, 3) := by decide +kernel
theorem dX6_comes_301 : decode cX6_comes 301 = .ok (.aload_n 0, 1) := by decide +kernel
theorem dX6_comes_302 : decode cX6_comes 302 = .ok (.aload_n 0, 1) := by decide +kernel
theorem dX6_comes_303 : decode cX6_comes 303 = .ok (.getfield 13, 3) := by decide +kernel
theorem dX6_comes_306 : decode cX6_comes 306 = .ok (.iconst 3, 1) := by decide +kernel
theorem dX6_comes_307 : decode cX6_comes 307 = .ok (.iaload, 1) := by decide +kernel
theorem dX6_comes_308 : decode cX6_comes 308 = .ok (.iconst 5, 1) := by decide +kernel
theorem dX6_comes_309 : decode cX6_comes 309 = .ok (.iconst 0, 1) := by decide +kernel
theorem dX6_comes_310 : decode cX6_comes 310 = .ok (.invokevirtual 64, 3) := by decide +kernel
theorem dX6_comes_313 : decode cX6_comes 313 = .ok (.aload_n 0, 1) := by decide +kernel
theorem dX6_comes_314 : decode cX6_comes 314 = .ok (.getfield 13, 3) := by decide +kernel
theorem dX6_comes_317 : decode cX6_comes 317 = .ok (.iconst 3, 1) := by decide +kernel
theorem dX6_comes_318 : decode cX6_comes 318 = .ok (.dup2, 1) := by decide +kernel
theorem dX6_comes_319 : decode cX6_comes 319 = .ok (.iaload, 1) := by decide +kernel
theorem dX6_comes_320 : decode cX6_comes 320 = .ok (.iconst 1, 1) := by decide +kernel
theorem dX6_comes_321 : decode cX6_comes 321 = .ok (.iadd, 1) := by decide +kernel
theorem dX6_comes_322 : decode cX6_comes 322 = .ok (.iastore, 1) := by decide +kernel
theorem dX6_comes_323 : decode cX6_comes 323 = .ok (.iconst 1, 1) := by decide +kernel
theorem dX6_comes_324 : decode cX6_comes 324 = .ok (.ireturn, 1) := by decide +kernel
theorem dX6_comes_325 : decode cX6_comes 325 = .ok (.aload_n 0, 1) := by decide +kernel
theorem dX6_comes_326 : decode cX6_comes 326 = .ok (.iload_n 2, 1) := by decide +kernel
theorem dX6_comes_327 : decode cX6_comes 327 = .ok (.invokevirtual 144, 3) := by decide +kernel
theorem dX6_comes_330 : decode cX6_comes 330 = .ok (.ifCond .eq 11, 3) := by decide +kernel
theorem dX6_comes_333 : decode cX6_comes 333 = .ok (.aload_n 0, 1) := by decide +kernel
theorem dX6_comes_334 : decode cX6_comes 334 = .ok (.iload_n 3, 1) := by decide +kernel
theorem dX6_comes_335 : decode cX6_comes 335 = .ok (.invokevirtual 147, 3) := by decide +kernel
theorem dX6_comes_338 : decode cX6_comes 338 = .ok (.ifCond .ne 5, 3) := by decide +kernel
theorem dX6_comes_341 : decode cX6_comes 341 = .ok (.iconst 0, 1) := by decide +kernel
theorem dX6_comes_342 : decode cX6_comes 342 = .ok (.ireturn, 1) := by decide +kernel
theorem dX6_comes_343 : decode cX6_comes 343 = .ok (.aload_n 0, 1) := by decide +kernel
theorem dX6_comes_344 : decode cX6_comes 344 = .ok (.iload_n 2, 1) := by decide +kernel
theorem dX6_comes_345 : decode cX6_comes 345 = .ok (.iload_n 3, 1) := by decide +kernel
theorem dX6_comes_346 : decode cX6_comes 346 = .ok (.invokevirtual 81, 3) := by decide +kernel
theorem dX6_comes_349 : decode cX6_comes 349 = .ok (.iconst 1, 1) := by decide +kernel
theorem dX6_comes_350 : decode cX6_comes 350 = .ok (.ireturn, 1) := by decide +kernel
theorem dX6_comes_351 : decode cX6_comes 351 = .ok (.iload_n 2, 1) := by decide +kernel
theorem dX6_comes_352 : decode cX6_comes 352 = .ok (.iconst 1, 1) := by decide +kernel
theorem dX6_comes_353 : decode cX6_comes 353 = .ok (.if_icmp .lt 9, 3) := by decide +kernel
theorem dX6_comes_356 : decode cX6_comes 356 = .ok (.iload_n 2, 1) := by decide +kernel
theorem dX6_comes_357 : decode cX6_comes 357 = .ok (.bipush 20, 2) := by decide +kernel
theorem dX6_comes_359 : decode cX6_comes 359 = .ok (.if_icmp .le 5, 3) := by decide +kernel
theorem dX6_comes_362 : decode cX6_comes 362 = .ok (.iconst 0, 1) := by decide +kernel
theorem dX6_comes_363 : decode cX6_comes 363 = .ok (.ireturn, 1) := by decide +kernel
theorem dX6_comes_364 : decode cX6_comes 364 = .ok (.aload_n 0, 1) := by decide +kernel
theorem dX6_comes_365 : decode cX6_comes 365 = .ok (.getfield 13, 3) := by decide +kernel
theorem dX6_comes_368 : decode cX6_comes 368 = .ok (.iconst 5, 1) := by decide +kernel
theorem dX6_comes_369 : decode cX6_comes 369 = .ok (.iload_n 2, 1) := by decide +kernel
theorem dX6_comes_370 : decode cX6_comes 370 = .ok (.iastore, 1) := by decide +kernel
theorem dX6_comes_371 : decode cX6_comes 371 = .ok (.iconst 1, 1) := by decide +kernel
theorem dX6_comes_372 : decode cX6_comes 372 = .ok (.ireturn, 1) := by decide +kernel
theorem dX6_reads_0 : decode cX6_reads 0 = .ok (.aload_n 0, 1) := by decide +kernel
theorem dX6_reads_1 : decode cX6_reads 1 = .ok (.iconst 0, 1) := by decide +kernel
theorem dX6_reads_2 : decode cX6_reads 2 = .ok (.putfield 123, 3) := by decide +kernel
theorem dX6_reads_5 : decode cX6_reads 5 = .ok (.iconst 0, 1) := by decide +kernel
theorem dX6_reads_6 : decode cX6_reads 6 = .ok (.istore_n 1, 1) := by decide +kernel
theorem dX6_reads_7 : decode cX6_reads 7 = .ok (.aload_n 0, 1) := by decide +kernel
theorem dX6_reads_8 : decode cX6_reads 8 = .ok (.invokevirtual 150, 3) := by decide +kernel
theorem dX6_reads_11 : decode cX6_reads 11 = .ok (.ifCond .ne 12, 3) := by decide +kernel
theorem dX6_reads_14 : decode cX6_reads 14 = .ok (.sipush (-1000), 3) := by decide +kernel
theorem dX6_reads_17 : decode cX6_reads 17 = .ok (.aload_n 0, 1) := by decide +kernel
theorem dX6_reads_18 : decode cX6_reads 18 = .ok (.getfield 123, 3) := by decide +kernel
theorem dX6_reads_21 : decode cX6_reads 21 = .ok (.isub, 1) := by decide +kernel
theorem dX6_reads_22 : decode cX6_reads 22 = .ok (.ireturn, 1) := by decide +kernel
theorem dX6_reads_23 : decode cX6_reads 23 = .ok (.iinc 1 1, 3) := by decide +kernel
theorem dX6_reads_26 : decode cX6_reads 26 = .ok (.aload_n 0, 1) := by decide +kernel
theorem dX6_reads_27 : decode cX6_reads 27 = .ok (.getfield 123, 3) := by decide +kernel
theorem dX6_reads_30 : decode cX6_reads 30 = .ok (.aload_n 0, 1) := by decide +kernel
theorem dX6_reads_31 : decode cX6_reads 31 = .ok (.getfield 116, 3) := by decide +kernel
theorem dX6_reads_34 : decode cX6_reads 34 = .ok (.if_icmp .lt (-27), 3) := by decide +kernel
theorem dX6_reads_37 : decode cX6_reads 37 = .ok (.aload_n 0, 1) := by decide +kernel
theorem dX6_reads_38 : decode cX6_reads 38 = .ok (.getfield 13, 3) := by decide +kernel
theorem dX6_reads_41 : decode cX6_reads 41 = .ok (.aload_n 0, 1) := by decide +kernel
theorem dX6_reads_42 : decode cX6_reads 42 = .ok (.getfield 19, 3) := by decide +kernel
theorem dX6_reads_45 : decode cX6_reads 45 = .ok (.invokestatic 49, 3) := by decide +kernel
theorem dX6_reads_48 : decode cX6_reads 48 = .ok (.aload_n 0, 1) := by decide +kernel
theorem dX6_reads_49 : decode cX6_reads 49 = .ok (.iconst 0, 1) := by decide +kernel
theorem dX6_reads_50 : decode cX6_reads 50 = .ok (.putfield 123, 3) := by decide +kernel
theorem dX6_reads_53 : decode cX6_reads 53 = .ok (.aload_n 0, 1) := by decide +kernel
theorem dX6_reads_54 : decode cX6_reads 54 = .ok (.getfield 123, 3) := by decide +kernel
theorem dX6_reads_57 : decode cX6_reads 57 = .ok (.aload_n 0, 1) := by decide +kernel
theorem dX6_reads_58 : decode cX6_reads 58 = .ok (.getfield 116, 3) := by decide +kernel
theorem dX6_reads_61 : decode cX6_reads 61 = .ok (.if_icmp .ge 47, 3) := by decide +kernel
theorem dX6_reads_64 : decode cX6_reads 64 = .ok (.aload_n 0, 1) := by decide +kernel
theorem dX6_reads_65 : decode cX6_reads 65 = .ok (.getfield 123, 3) := by decide +kernel
theorem dX6_reads_68 : decode cX6_reads 68 = .ok (.istore_n 2, 1) := by decide +kernel
theorem dX6_reads_69 : decode cX6_reads 69 = .ok (.aload_n 0, 1) := by decide +kernel
theorem dX6_reads_70 : decode cX6_reads 70 = .ok (.invokevirtual 126, 3) := by decide +kernel
theorem dX6_reads_73 : decode cX6_reads 73 = .ok (.istore_n 3, 1) := by decide +kernel
theorem dX6_reads_74 : decode cX6_reads 74 = .ok (.aload_n 0, 1) := by decide +kernel
theorem dX6_reads_75 : decode cX6_reads 75 = .ok (.invokevirtual 150, 3) := by decide +kernel
theorem dX6_reads_78 : decode cX6_reads 78 = .ok (.istore 4, 2) := by decide +kernel
theorem dX6_reads_80 : decode cX6_reads 80 = .ok (.aload_n 0, 1) := by decide +kernel
theorem dX6_reads_81 : decode cX6_reads 81 = .ok (.iload_n 3, 1) := by decide +kernel
theorem dX6_reads_82 : decode cX6_reads 82 = .ok (.invokevirtual 154, 3) := by decide +kernel
theorem dX6_reads_85 : decode cX6_reads 85 = .ok (.ifCond .ne 20, 3) := by decide +kernel
theorem dX6_reads_88 : decode cX6_reads 88 = .ok (.aload_n 0, 1) := by decide +kernel
theorem dX6_reads_89 : decode cX6_reads 89 = .ok (.getfield 19, 3) := by decide +kernel
theorem dX6_reads_92 : decode cX6_reads 92 = .ok (.aload_n 0, 1) := by decide +kernel
theorem dX6_reads_93 : decode cX6_reads 93 = .ok (.getfield 13, 3) := by decide +kernel
theorem dX6_reads_96 : decode cX6_reads 96 = .ok (.invokestatic 49, 3) := by decide +kernel
theorem dX6_reads_99 : decode cX6_reads 99 = .ok (.sipush (-2000), 3) := by decide +kernel
theorem dX6_reads_102 : decode cX6_reads 102 = .ok (.iload_n 2, 1) := by decide +kernel
theorem dX6_reads_103 : decode cX6_reads 103 = .ok (.isub, 1) := by decide +kernel
theorem dX6_reads_104 : decode cX6_reads 104 = .ok (.ireturn, 1) := by decide +kernel
theorem dX6_reads_105 : decode cX6_reads 105 = .ok (.goto (-52), 3) := by decide +kernel
theorem dX6_reads_108 : decode cX6_reads 108 = .ok (.iload_n 1, 1) := by decide +kernel
theorem dX6_reads_109 : decode cX6_reads 109 = .ok (.ireturn, 1) := by decide +kernel
theorem dX6_office_0 : decode cX6_office 0 = .ok (.aload_n 0, 1) := by decide +kernel
theorem dX6_office_1 : decode cX6_office 1 = .ok (.invokevirtual 157, 3) := by decide +kernel
theorem dX6_office_4 : decode cX6_office 4 = .ok (.istore_n 1, 1) := by decide +kernel
theorem dX6_office_5 : decode cX6_office 5 = .ok (.aload_n 0, 1) := by decide +kernel
theorem dX6_office_6 : decode cX6_office 6 = .ok (.iconst 0, 1) := by decide +kernel
theorem dX6_office_7 : decode cX6_office 7 = .ok (.putfield 116, 3) := by decide +kernel
theorem dX6_office_10 : decode cX6_office 10 = .ok (.iload_n 1, 1) := by decide +kernel
theorem dX6_office_11 : decode cX6_office 11 = .ok (.ireturn, 1) := by decide +kernel
theorem dX6_song_0 : decode cX6_song 0 = .ok (.aload_n 0, 1) := by decide +kernel
theorem dX6_song_1 : decode cX6_song 1 = .ok (.iload_n 1, 1) := by decide +kernel
theorem dX6_song_2 : decode cX6_song 2 = .ok (.invokevirtual 147, 3) := by decide +kernel
theorem dX6_song_5 : decode cX6_song 5 = .ok (.ifCond .ne 9, 3) := by decide +kernel
theorem dX6_song_8 : decode cX6_song 8 = .ok (.aload_n 0, 1) := by decide +kernel
theorem dX6_song_9 : decode cX6_song 9 = .ok (.iconst (-1), 1) := by decide +kernel
theorem dX6_song_10 : decode cX6_song 10 = .ok (.invokevirtual 120, 3) := by decide +kernel
theorem dX6_song_13 : decode cX6_song 13 = .ok (.ireturn, 1) := by decide +kernel
theorem dX6_song_14 : decode cX6_song 14 = .ok (.iload_n 2, 1) := by decide +kernel
theorem dX6_song_15 : decode cX6_song 15 = .ok (.iconst 3, 1) := by decide +kernel
theorem dX6_song_16 : decode cX6_song 16 = .ok (.invokestatic 53, 3) := by decide +kernel
theorem dX6_song_19 : decode cX6_song 19 = .ok (.ifCond .eq 12, 3) := by decide +kernel
theorem dX6_song_22 : decode cX6_song 22 = .ok (.aload_n 0, 1) := by decide +kernel
theorem dX6_song_23 : decode cX6_song 23 = .ok (.iload_n 1, 1) := by decide +kernel
theorem dX6_song_24 : decode cX6_song 24 = .ok (.iload_n 2, 1) := by decide +kernel
theorem dX6_song_25 : decode cX6_song 25 = .ok (.invokevirtual 57, 3) := by decide +kernel
theorem dX6_song_28 : decode cX6_song 28 = .ok (.goto 35, 3) := by decide +kernel
theorem dX6_song_31 : decode cX6_song 31 = .ok (.iload_n 2, 1) := by decide +kernel
theorem dX6_song_32 : decode cX6_song 32 = .ok (.iconst 3, 1) := by decide +kernel
theorem dX6_song_33 : decode cX6_song 33 = .ok (.if_icmp .ne 11, 3) := by decide +kernel
theorem dX6_song_36 : decode cX6_song 36 = .ok (.aload_n 0, 1) := by decide +kernel
theorem dX6_song_37 : decode cX6_song 37 = .ok (.iload_n 1, 1) := by decide +kernel
theorem dX6_song_38 : decode cX6_song 38 = .ok (.invokevirtual 68, 3) := by decide +kernel
theorem dX6_song_41 : decode cX6_song 41 = .ok (.goto 22, 3) := by decide +kernel
theorem dX6_song_44 : decode cX6_song 44 = .ok (.iload_n 2, 1) := by decide +kernel
theorem dX6_song_45 : decode cX6_song 45 = .ok (.iconst 4, 1) := by decide +kernel
theorem dX6_song_46 : decode cX6_song 46 = .ok (.if_icmp .ne 11, 3) := by decide +kernel
theorem dX6_song_49 : decode cX6_song 49 = .ok (.aload_n 0, 1) := by decide +kernel
theorem dX6_song_50 : decode cX6_song 50 = .ok (.iload_n 1, 1) := by decide +kernel
theorem dX6_song_51 : decode cX6_song 51 = .ok (.invokevirtual 106, 3) := by decide +kernel
theorem dX6_song_54 : decode cX6_song 54 = .ok (.goto 9, 3) := by decide +kernel
theorem dX6_song_57 : decode cX6_song 57 = .ok (.aload_n 0, 1) := by decide +kernel
theorem dX6_song_58 : decode cX6_song 58 = .ok (.bipush (-2), 2) := by decide +kernel
theorem dX6_song_60 : decode cX6_song 60 = .ok (.invokevirtual 120, 3) := by decide +kernel
theorem dX6_song_63 : decode cX6_song 63 = .ok (.ireturn, 1) := by decide +kernel
theorem dX6_head_0 : decode cX6_head 0 = .ok (.aload_n 0, 1) := by decide +kernel
theorem dX6_head_1 : decode cX6_head 1 = .ok (.iload_n 1, 1) := by decide +kernel
theorem dX6_head_2 : decode cX6_head 2 = .ok (.invokevirtual 144, 3) := by decide +kernel
theorem dX6_head_5 : decode cX6_head 5 = .ok (.ifCond .ne 9, 3) := by decide +kernel
theorem dX6_head_8 : decode cX6_head 8 = .ok (.aload_n 0, 1) := by decide +kernel
theorem dX6_head_9 : decode cX6_head 9 = .ok (.iconst (-1), 1) := by decide +kernel
theorem dX6_head_10 : decode cX6_head 10 = .ok (.invokevirtual 120, 3) := by decide +kernel
theorem dX6_head_13 : decode cX6_head 13 = .ok (.ireturn, 1) := by decide +kernel
theorem dX6_head_14 : decode cX6_head 14 = .ok (.iload_n 2, 1) := by decide +kernel
theorem dX6_head_15 : decode cX6_head 15 = .ok (.bipush 6, 2) := by decide +kernel
theorem dX6_head_17 : decode cX6_head 17 = .ok (.invokestatic 53, 3) := by decide +kernel
theorem dX6_head_20 : decode cX6_head 20 = .ok (.ifCond .eq 12, 3) := by decide +kernel
theorem dX6_head_23 : decode cX6_head 23 = .ok (.aload_n 0, 1) := by decide +kernel
theorem dX6_head_24 : decode cX6_head 24 = .ok (.iload_n 1, 1) := by decide +kernel
theorem dX6_head_25 : decode cX6_head 25 = .ok (.iload_n 2, 1) := by decide +kernel
theorem dX6_head_26 : decode cX6_head 26 = .ok (.invokevirtual 61, 3) := by decide +kernel
theorem dX6_head_29 : decode cX6_head 29 = .ok (.goto 45, 3) := by decide +kernel
theorem dX6_head_32 : decode cX6_head 32 = .ok (.iload_n 2, 1) := by decide +kernel
theorem dX6_head_33 : decode cX6_head 33 = .ok (.bipush 6, 2) := by decide +kernel
theorem dX6_head_35 : decode cX6_head 35 = .ok (.if_icmp .ne 11, 3) := by decide +kernel
theorem dX6_head_38 : decode cX6_head 38 = .ok (.aload_n 0, 1) := by decide +kernel
theorem dX6_head_39 : decode cX6_head 39 = .ok (.iload_n 1, 1) := by decide +kernel
theorem dX6_head_40 : decode cX6_head 40 = .ok (.invokevirtual 75, 3) := by decide +kernel
theorem dX6_head_43 : decode cX6_head 43 = .ok (.goto 31, 3) := by decide +kernel
theorem dX6_head_46 : decode cX6_head 46 = .ok (.iload_n 2, 1) := by decide +kernel
theorem dX6_head_47 : decode cX6_head 47 = .ok (.bipush 7, 2) := by decide +kernel
theorem dX6_head_49 : decode cX6_head 49 = .ok (.if_icmp .ne 19, 3) := by decide +kernel
theorem dX6_head_52 : decode cX6_head 52 = .ok (.aload_n 0, 1) := by decide +kernel
theorem dX6_head_53 : decode cX6_head 53 = .ok (.iload_n 1, 1) := by decide +kernel
theorem dX6_head_54 : decode cX6_head 54 = .ok (.invokevirtual 85, 3) := by decide +kernel
theorem dX6_head_57 : decode cX6_head 57 = .ok (.ifCond .eq 7, 3) := by decide +kernel
theorem dX6_head_60 : decode cX6_head 60 = .ok (.iconst 1, 1) := by decide +kernel
theorem dX6_head_61 : decode cX6_head 61 = .ok (.goto 13, 3) := by decide +kernel
theorem dX6_head_64 : decode cX6_head 64 = .ok (.iconst 0, 1) := by decide +kernel
theorem dX6_head_65 : decode cX6_head 65 = .ok (.goto 9, 3) := by decide +kernel
theorem dX6_head_68 : decode cX6_head 68 = .ok (.aload_n 0, 1) := by decide +kernel
theorem dX6_head_69 : decode cX6_head 69 = .ok (.bipush (-2), 2) := by decide +kernel
theorem dX6_head_71 : decode cX6_head 71 = .ok (.invokevirtual 120, 3) := by decide +kernel
theorem dX6_head_74 : decode cX6_head 74 = .ok (.ireturn, 1) := by decide +kernel
theorem dX6_near_0 : decode cX6_near 0 = .ok (.aload_n 0, 1) := by decide +kernel
theorem dX6_near_1 : decode cX6_near 1 = .ok (.iload_n 1, 1) := by decide +kernel
theorem dX6_near_2 : decode cX6_near 2 = .ok (.invokevirtual 144, 3) := by decide +kernel
theorem dX6_near_5 : decode cX6_near 5 = .ok (.ifCond .ne 9, 3) := by decide +kernel
theorem dX6_near_8 : decode cX6_near 8 = .ok (.aload_n 0, 1) := by decide +kernel
theorem dX6_near_9 : decode cX6_near 9 = .ok (.iconst (-1), 1) := by decide +kernel
theorem dX6_near_10 : decode cX6_near 10 = .ok (.invokevirtual 120, 3) := by decide +kernel
theorem dX6_near_13 : decode cX6_near 13 = .ok (.ireturn, 1) := by decide +kernel
theorem dX6_near_14 : decode cX6_near 14 = .ok (.iconst 0, 1) := by decide +kernel
theorem dX6_near_15 : decode cX6_near 15 = .ok (.istore_n 2, 1) := by decide +kernel
theorem dX6_near_16 : decode cX6_near 16 = .ok (.iconst 0, 1) := by decide +kernel
theorem dX6_near_17 : decode cX6_near 17 = .ok (.istore_n 3, 1) := by decide +kernel
theorem dX6_near_18 : decode cX6_near 18 = .ok (.iload_n 3, 1) := by decide +kernel
theorem dX6_near_19 : decode cX6_near 19 = .ok (.aload_n 0, 1) := by decide +kernel
theorem dX6_near_20 : decode cX6_near 20 = .ok (.getfield 13, 3) := by decide +kernel
theorem dX6_near_23 : decode cX6_near 23 = .ok (.iconst 3, 1) := by decide +kernel
theorem dX6_near_24 : decode cX6_near 24 = .ok (.iaload, 1) := by decide +kernel
theorem dX6_near_25 : decode cX6_near 25 = .ok (.if_icmp .ge 28, 3) := by decide +kernel
theorem dX6_near_28 : decode cX6_near 28 = .ok (.iload_n 2, 1) := by decide +kernel
theorem dX6_near_29 : decode cX6_near 29 = .ok (.aload_n 0, 1) := by decide +kernel
theorem dX6_near_30 : decode cX6_near 30 = .ok (.iload_n 1, 1) := by decide +kernel
theorem dX6_near_31 : decode cX6_near 31 = .ok (.iload_n 3, 1) := by decide +kernel
theorem dX6_near_32 : decode cX6_near 32 = .ok (.invokevirtual 72, 3) := by decide +kernel
theorem dX6_near_35 : decode cX6_near 35 = .ok (.ifCond .eq 9, 3) := by decide +kernel
theorem dX6_near_38 : decode cX6_near 38 = .ok (.iconst 1, 1) := by decide +kernel
theorem dX6_near_39 : decode cX6_near 39 = .ok (.iload_n 3, 1) := by decide +kernel
theorem dX6_near_40 : decode cX6_near 40 = .ok (.ishl, 1) := by decide +kernel
theorem dX6_near_41 : decode cX6_near 41 = .ok (.goto 4, 3) := by decide +kernel
theorem dX6_near_44 : decode cX6_near 44 = .ok (.iconst 0, 1) := by decide +kernel
theorem dX6_near_45 : decode cX6_near 45 = .ok (.ior, 1) := by decide +kernel
theorem dX6_near_46 : decode cX6_near 46 = .ok (.istore_n 2, 1) := by decide +kernel
theorem dX6_near_47 : decode cX6_near 47 = .ok (.iinc 3 1, 3) := by decide +kernel
theorem dX6_near_50 : decode cX6_near 50 = .ok (.goto (-32), 3) := by decide +kernel
theorem dX6_near_53 : decode cX6_near 53 = .ok (.iload_n 2, 1) := by decide +kernel
theorem dX6_near_54 : decode cX6_near 54 = .ok (.ireturn, 1) := by decide +kernel
theorem dX6_door_0 : decode cX6_door 0 = .ok (.iload_n 1, 1) := by decide +kernel
theorem dX6_door_1 : decode cX6_door 1 = .ok (.aload_n 0, 1) := by decide +kernel
theorem dX6_door_2 : decode cX6_door 2 = .ok (.getfield 13, 3) := by decide +kernel
theorem dX6_door_5 : decode cX6_door 5 = .ok (.iconst 0, 1) := by decide +kernel
theorem dX6_door_6 : decode cX6_door 6 = .ok (.iaload, 1) := by decide +kernel
theorem dX6_door_7 : decode cX6_door 7 = .ok (.invokestatic 53, 3) := by decide +kernel
theorem dX6_door_10 : decode cX6_door 10 = .ok (.ifCond .ne 9, 3) := by decide +kernel
theorem dX6_door_13 : decode cX6_door 13 = .ok (.aload_n 0, 1) := by decide +kernel
theorem dX6_door_14 : decode cX6_door 14 = .ok (.iconst (-1), 1) := by decide +kernel
theorem dX6_door_15 : decode cX6_door 15 = .ok (.invokevirtual 120, 3) := by decide +kernel
theorem dX6_door_18 : decode cX6_door 18 = .ok (.ireturn, 1) := by decide +kernel
theorem dX6_door_19 : decode cX6_door 19 = .ok (.aload_n 0, 1) := by decide +kernel
theorem dX6_door_20 : decode cX6_door 20 = .ok (.getfield 13, 3) := by decide +kernel
theorem dX6_door_23 : decode cX6_door 23 = .ok (.iconst 1, 1) := by decide +kernel
theorem dX6_door_24 : decode cX6_door 24 = .ok (.dup2, 1) := by decide +kernel
theorem dX6_door_25 : decode cX6_door 25 = .ok (.iaload, 1) := by decide +kernel
theorem dX6_door_26 : decode cX6_door 26 = .ok (.iconst 1, 1) := by decide +kernel
theorem dX6_door_27 : decode cX6_door 27 = .ok (.iload_n 1, 1) := by decide +kernel
theorem dX6_door_28 : decode cX6_door 28 = .ok (.ishl, 1) := by decide +kernel
theorem dX6_door_29 : decode cX6_door 29 = .ok (.ixor, 1) := by decide +kernel
theorem dX6_door_30 : decode cX6_door 30 = .ok (.iastore, 1) := by decide +kernel
theorem dX6_door_31 : decode cX6_door 31 = .ok (.aload_n 0, 1) := by decide +kernel
theorem dX6_door_32 : decode cX6_door 32 = .ok (.getfield 13, 3) := by decide +kernel
theorem dX6_door_35 : decode cX6_door 35 = .ok (.iconst 1, 1) := by decide +kernel
theorem dX6_door_36 : decode cX6_door 36 = .ok (.iaload, 1) := by decide +kernel
theorem dX6_door_37 : decode cX6_door 37 = .ok (.iload_n 1, 1) := by decide +kernel
theorem dX6_door_38 : decode cX6_door 38 = .ok (.ishr, 1) := by decide +kernel
theorem dX6_door_39 : decode cX6_door 39 = .ok (.iconst 1, 1) := by decide +kernel
theorem dX6_door_40 : decode cX6_door 40 = .ok (.iand, 1) := by decide +kernel
theorem dX6_door_41 : decode cX6_door 41 = .ok (.ireturn, 1) := by decide +kernel
theorem dX6_go_0 : decode cX6_go 0 = .ok (.aload_n 0, 1) := by decide +kernel
theorem dX6_go_1 : decode cX6_go 1 = .ok (.iload_n 1, 1) := by decide +kernel
theorem dX6_go_2 : decode cX6_go 2 = .ok (.invokevirtual 144, 3) := by decide +kernel
theorem dX6_go_5 : decode cX6_go 5 = .ok (.ifCond .eq 11, 3) := by decide +kernel
theorem dX6_go_8 : decode cX6_go 8 = .ok (.iload_n 2, 1) := by decide +kernel
theorem dX6_go_9 : decode cX6_go 9 = .ok (.iconst 5, 1) := by decide +kernel
theorem dX6_go_10 : decode cX6_go 10 = .ok (.invokestatic 53, 3) := by decide +kernel
theorem dX6_go_13 : decode cX6_go 13 = .ok (.ifCond .ne 9, 3) := by decide +kernel
theorem dX6_go_16 : decode cX6_go 16 = .ok (.aload_n 0, 1) := by decide +kernel
theorem dX6_go_17 : decode cX6_go 17 = .ok (.iconst (-1), 1) := by decide +kernel
theorem dX6_go_18 : decode cX6_go 18 = .ok (.invokevirtual 120, 3) := by decide +kernel
theorem dX6_go_21 : decode cX6_go 21 = .ok (.ireturn, 1) := by decide +kernel
theorem dX6_go_22 : decode cX6_go 22 = .ok (.aload_n 0, 1) := by decide +kernel
theorem dX6_go_23 : decode cX6_go 23 = .ok (.iload_n 1, 1) := by decide +kernel
theorem dX6_go_24 : decode cX6_go 24 = .ok (.iconst 1, 1) := by decide +kernel
theorem dX6_go_25 : decode cX6_go 25 = .ok (.invokevirtual 61, 3) := by decide +kernel
theorem dX6_go_28 : decode cX6_go 28 = .ok (.istore_n 3, 1) := by decide +kernel
theorem dX6_go_29 : decode cX6_go 29 = .ok (.aload_n 0, 1) := by decide +kernel
theorem dX6_go_30 : decode cX6_go 30 = .ok (.iload_n 1, 1) := by decide +kernel
theorem dX6_go_31 : decode cX6_go 31 = .ok (.iconst 1, 1) := by decide +kernel
theorem dX6_go_32 : decode cX6_go 32 = .ok (.iload_n 2, 1) := by decide +kernel
theorem dX6_go_33 : decode cX6_go 33 = .ok (.invokevirtual 64, 3) := by decide +kernel
theorem dX6_go_36 : decode cX6_go 36 = .ok (.iload_n 3, 1) := by decide +kernel
theorem dX6_go_37 : decode cX6_go 37 = .ok (.ireturn, 1) := by decide +kernel
theorem dX6_get_0 : decode cX6_get 0 = .ok (.aload_n 0, 1) := by decide +kernel
theorem dX6_get_1 : decode cX6_get 1 = .ok (.iload_n 1, 1) := by decide +kernel
theorem dX6_get_2 : decode cX6_get 2 = .ok (.invokevirtual 144, 3) := by decide +kernel
theorem dX6_get_5 : decode cX6_get 5 = .ok (.ifCond .eq 16, 3) := by decide +kernel
theorem dX6_get_8 : decode cX6_get 8 = .ok (.iload_n 2, 1) := by decide +kernel
theorem dX6_get_9 : decode cX6_get 9 = .ok (.iconst (-1), 1) := by decide +kernel
theorem dX6_get_10 : decode cX6_get 10 = .ok (.if_icmp .eq 17, 3) := by decide +kernel
theorem dX6_get_13 : decode cX6_get 13 = .ok (.aload_n 0, 1) := by decide +kernel
theorem dX6_get_14 : decode cX6_get 14 = .ok (.iload_n 2, 1) := by decide +kernel
theorem dX6_get_15 : decode cX6_get 15 = .ok (.invokevirtual 147, 3) := by decide +kernel
theorem dX6_get_18 : decode cX6_get 18 = .ok (.ifCond .ne 9, 3) := by decide +kernel
theorem dX6_get_21 : decode cX6_get 21 = .ok (.aload_n 0, 1) := by decide +kernel
theorem dX6_get_22 : decode cX6_get 22 = .ok (.iconst (-1), 1) := by decide +kernel
theorem dX6_get_23 : decode cX6_get 23 = .ok (.invokevirtual 120, 3) := by decide +kernel
theorem dX6_get_26 : decode cX6_get 26 = .ok (.ireturn, 1) := by decide +kernel
theorem dX6_get_27 : decode cX6_get 27 = .ok (.aload_n 0, 1) := by decide +kernel
theorem dX6_get_28 : decode cX6_get 28 = .ok (.iload_n 1, 1) := by decide +kernel
theorem dX6_get_29 : decode cX6_get 29 = .ok (.iconst 3, 1) := by decide +kernel
theorem dX6_get_30 : decode cX6_get 30 = .ok (.invokevirtual 61, 3) := by decide +kernel
theorem dX6_get_33 : decode cX6_get 33 = .ok (.istore_n 3, 1) := by decide +kernel
theorem dX6_get_34 : decode cX6_get 34 = .ok (.aload_n 0, 1) := by decide +kernel
theorem dX6_get_35 : decode cX6_get 35 = .ok (.iload_n 1, 1) := by decide +kernel
theorem dX6_get_36 : decode cX6_get 36 = .ok (.iload_n 2, 1) := by decide +kernel
theorem dX6_get_37 : decode cX6_get 37 = .ok (.invokevirtual 81, 3) := by decide +kernel
theorem dX6_get_40 : decode cX6_get 40 = .ok (.iload_n 3, 1) := by decide +kernel
theorem dX6_get_41 : decode cX6_get 41 = .ok (.ireturn, 1) := by decide +kernel
theorem dX6_mends_0 : decode cX6_mends 0 = .ok (.iload_n 2, 1) := by decide +kernel
theorem dX6_mends_1 : decode cX6_mends 1 = .ok (.iconst 3, 1) := by decide +kernel
theorem dX6_mends_2 : decode cX6_mends 2 = .ok (.if_icmp .ne 4, 3) := by decide +kernel
theorem dX6_mends_5 : decode cX6_mends 5 = .ok (.return_, 1) := by decide +kernel
theorem dX6_mends_6 : decode cX6_mends 6 = .ok (.iload_n 2, 1) := by decide +kernel
theorem dX6_mends_7 : decode cX6_mends 7 = .ok (.iconst 2, 1) := by decide +kernel
theorem dX6_mends_8 : decode cX6_mends 8 = .ok (.if_icmp .ne 11, 3) := by decide +kernel
theorem dX6_mends_11 : decode cX6_mends 11 = .ok (.aload_n 0, 1) := by decide +kernel
theorem dX6_mends_12 : decode cX6_mends 12 = .ok (.iload_n 1, 1) := by decide +kernel
theorem dX6_mends_13 : decode cX6_mends 13 = .ok (.iconst 5, 1) := by decide +kernel
theorem dX6_mends_14 : decode cX6_mends 14 = .ok (.iconst 3, 1) := by decide +kernel
theorem dX6_mends_15 : decode cX6_mends 15 = .ok (.invokevirtual 64, 3) := by decide +kernel
theorem dX6_mends_18 : decode cX6_mends 18 = .ok (.return_, 1) := by decide +kernel
theorem dX6_mends_19 : decode cX6_mends 19 = .ok (.iload_n 2, 1) := by decide +kernel
theorem dX6_mends_20 : decode cX6_mends 20 = .ok (.ifCond .ne 14, 3) := by decide +kernel
theorem dX6_mends_23 : decode cX6_mends 23 = .ok (.aload_n 0, 1) := by decide +kernel
theorem dX6_mends_24 : decode cX6_mends 24 = .ok (.iload_n 1, 1) := by decide +kernel
theorem dX6_mends_25 : decode cX6_mends 25 = .ok (.iconst 4, 1) := by decide +kernel
theorem dX6_mends_26 : decode cX6_mends 26 = .ok (.invokevirtual 61, 3) := by decide +kernel
theorem dX6_mends_29 : decode cX6_mends 29 = .ok (.iconst 2, 1) := by decide +kernel
theorem dX6_mends_30 : decode cX6_mends 30 = .ok (.idiv, 1) := by decide +kernel
theorem dX6_mends_31 : decode cX6_mends 31 = .ok (.goto 11, 3) := by decide +kernel
theorem dX6_mends_34 : decode cX6_mends 34 = .ok (.aload_n 0, 1) := by decide +kernel
theorem dX6_mends_35 : decode cX6_mends 35 = .ok (.iload_n 1, 1) := by decide +kernel
theorem dX6_mends_36 : decode cX6_mends 36 = .ok (.iconst 4, 1) := by decide +kernel
theorem dX6_mends_37 : decode cX6_mends 37 = .ok (.invokevirtual 61, 3) := by decide +kernel
theorem dX6_mends_40 : decode cX6_mends 40 = .ok (.iconst 4, 1) := by decide +kernel
theorem dX6_mends_41 : decode cX6_mends 41 = .ok (.isub, 1) := by decide +kernel
theorem dX6_mends_42 : decode cX6_mends 42 = .ok (.istore_n 3, 1) := by decide +kernel
theorem dX6_mends_43 : decode cX6_mends 43 = .ok (.iload_n 3, 1) := by decide +kernel
theorem dX6_mends_44 : decode cX6_mends 44 = .ok (.ifCond .gt 13, 3) := by decide +kernel
theorem dX6_mends_47 : decode cX6_mends 47 = .ok (.aload_n 0, 1) := by decide +kernel
theorem dX6_mends_48 : decode cX6_mends 48 = .ok (.iload_n 1, 1) := by decide +kernel
theorem dX6_mends_49 : decode cX6_mends 49 = .ok (.bipush (-9), 2) := by decide +kernel
theorem dX6_mends_51 : decode cX6_mends 51 = .ok (.invokevirtual 81, 3) := by decide +kernel
theorem dX6_mends_54 : decode cX6_mends 54 = .ok (.goto 10, 3) := by decide +kernel
theorem dX6_mends_57 : decode cX6_mends 57 = .ok (.aload_n 0, 1) := by decide +kernel
theorem dX6_mends_58 : decode cX6_mends 58 = .ok (.iload_n 1, 1) := by decide +kernel
theorem dX6_mends_59 : decode cX6_mends 59 = .ok (.iconst 4, 1) := by decide +kernel
theorem dX6_mends_60 : decode cX6_mends 60 = .ok (.iload_n 3, 1) := by decide +kernel
theorem dX6_mends_61 : decode cX6_mends 61 = .ok (.invokevirtual 64, 3) := by decide +kernel
theorem dX6_mends_64 : decode cX6_mends 64 = .ok (.return_, 1) := by decide +kernel
theorem dX6_remedy_0 : decode cX6_remedy 0 = .ok (.aload_n 0, 1) := by decide +kernel
theorem dX6_remedy_1 : decode cX6_remedy 1 = .ok (.iload_n 1, 1) := by decide +kernel
theorem dX6_remedy_2 : decode cX6_remedy 2 = .ok (.invokevirtual 144, 3) := by decide +kernel
theorem dX6_remedy_5 : decode cX6_remedy 5 = .ok (.ifCond .ne 7, 3) := by decide +kernel
theorem dX6_remedy_8 : decode cX6_remedy 8 = .ok (.iconst (-1), 1) := by decide +kernel
theorem dX6_remedy_9 : decode cX6_remedy 9 = .ok (.goto 36, 3) := by decide +kernel
theorem dX6_remedy_12 : decode cX6_remedy 12 = .ok (.iload_n 2, 1) := by decide +kernel
theorem dX6_remedy_13 : decode cX6_remedy 13 = .ok (.iconst 3, 1) := by decide +kernel
theorem dX6_remedy_14 : decode cX6_remedy 14 = .ok (.invokestatic 53, 3) := by decide +kernel
theorem dX6_remedy_17 : decode cX6_remedy 17 = .ok (.ifCond .ne 8, 3) := by decide +kernel
theorem dX6_remedy_20 : decode cX6_remedy 20 = .ok (.bipush (-2), 2) := by decide +kernel
theorem dX6_remedy_22 : decode cX6_remedy 22 = .ok (.goto 23, 3) := by decide +kernel
theorem dX6_remedy_25 : decode cX6_remedy 25 = .ok (.iload_n 2, 1) := by decide +kernel
theorem dX6_remedy_26 : decode cX6_remedy 26 = .ok (.iconst 2, 1) := by decide +kernel
theorem dX6_remedy_27 : decode cX6_remedy 27 = .ok (.if_icmp .ge 17, 3) := by decide +kernel
theorem dX6_remedy_30 : decode cX6_remedy 30 = .ok (.aload_n 0, 1) := by decide +kernel
theorem dX6_remedy_31 : decode cX6_remedy 31 = .ok (.iload_n 1, 1) := by decide +kernel
theorem dX6_remedy_32 : decode cX6_remedy 32 = .ok (.iconst 3, 1) := by decide +kernel
theorem dX6_remedy_33 : decode cX6_remedy 33 = .ok (.invokevirtual 61, 3) := by decide +kernel
theorem dX6_remedy_36 : decode cX6_remedy 36 = .ok (.ifCond .ge 8, 3) := by decide +kernel
theorem dX6_remedy_39 : decode cX6_remedy 39 = .ok (.bipush (-3), 2) := by decide +kernel
theorem dX6_remedy_41 : decode cX6_remedy 41 = .ok (.goto 4, 3) := by decide +kernel
theorem dX6_remedy_44 : decode cX6_remedy 44 = .ok (.iconst 0, 1) := by decide +kernel
theorem dX6_remedy_45 : decode cX6_remedy 45 = .ok (.istore_n 3, 1) := by decide +kernel
theorem dX6_remedy_46 : decode cX6_remedy 46 = .ok (.iload_n 3, 1) := by decide +kernel
theorem dX6_remedy_47 : decode cX6_remedy 47 = .ok (.ifCond .eq 9, 3) := by decide +kernel
theorem dX6_remedy_50 : decode cX6_remedy 50 = .ok (.aload_n 0, 1) := by decide +kernel
theorem dX6_remedy_51 : decode cX6_remedy 51 = .ok (.iload_n 3, 1) := by decide +kernel
theorem dX6_remedy_52 : decode cX6_remedy 52 = .ok (.invokevirtual 120, 3) := by decide +kernel
theorem dX6_remedy_55 : decode cX6_remedy 55 = .ok (.ireturn, 1) := by decide +kernel
theorem dX6_remedy_56 : decode cX6_remedy 56 = .ok (.aload_n 0, 1) := by decide +kernel
theorem dX6_remedy_57 : decode cX6_remedy 57 = .ok (.iload_n 1, 1) := by decide +kernel
theorem dX6_remedy_58 : decode cX6_remedy 58 = .ok (.iload_n 2, 1) := by decide +kernel
theorem dX6_remedy_59 : decode cX6_remedy 59 = .ok (.invokevirtual 160, 3) := by decide +kernel
theorem dX6_remedy_62 : decode cX6_remedy 62 = .ok (.aload_n 0, 1) := by decide +kernel
theorem dX6_remedy_63 : decode cX6_remedy 63 = .ok (.iload_n 1, 1) := by decide +kernel
theorem dX6_remedy_64 : decode cX6_remedy 64 = .ok (.iconst 4, 1) := by decide +kernel
theorem dX6_remedy_65 : decode cX6_remedy 65 = .ok (.invokevirtual 61, 3) := by decide +kernel
theorem dX6_remedy_68 : decode cX6_remedy 68 = .ok (.ireturn, 1) := by decide +kernel
theorem dX6_loud_0 : decode cX6_loud 0 = .ok (.iload_n 1, 1) := by decide +kernel
theorem dX6_loud_1 : decode cX6_loud 1 = .ok (.iconst 1, 1) := by decide +kernel
theorem dX6_loud_2 : decode cX6_loud 2 = .ok (.bipush 20, 2) := by decide +kernel
theorem dX6_loud_4 : decode cX6_loud 4 = .ok (.invokestatic 112, 3) := by decide +kernel
theorem dX6_loud_7 : decode cX6_loud 7 = .ok (.istore_n 2, 1) := by decide +kernel
theorem dX6_loud_8 : decode cX6_loud 8 = .ok (.iload_n 2, 1) := by decide +kernel
theorem dX6_loud_9 : decode cX6_loud 9 = .ok (.ifCond .eq 9, 3) := by decide +kernel
theorem dX6_loud_12 : decode cX6_loud 12 = .ok (.aload_n 0, 1) := by decide +kernel
theorem dX6_loud_13 : decode cX6_loud 13 = .ok (.iload_n 2, 1) := by decide +kernel
theorem dX6_loud_14 : decode cX6_loud 14 = .ok (.invokevirtual 120, 3) := by decide +kernel
theorem dX6_loud_17 : decode cX6_loud 17 = .ok (.ireturn, 1) := by decide +kernel
theorem dX6_loud_18 : decode cX6_loud 18 = .ok (.aload_n 0, 1) := by decide +kernel
theorem dX6_loud_19 : decode cX6_loud 19 = .ok (.getfield 13, 3) := by decide +kernel
theorem dX6_loud_22 : decode cX6_loud 22 = .ok (.iconst 5, 1) := by decide +kernel
theorem dX6_loud_23 : decode cX6_loud 23 = .ok (.iaload, 1) := by decide +kernel
theorem dX6_loud_24 : decode cX6_loud 24 = .ok (.istore_n 3, 1) := by decide +kernel
theorem dX6_loud_25 : decode cX6_loud 25 = .ok (.aload_n 0, 1) := by decide +kernel
theorem dX6_loud_26 : decode cX6_loud 26 = .ok (.getfield 13, 3) := by decide +kernel
theorem dX6_loud_29 : decode cX6_loud 29 = .ok (.iconst 5, 1) := by decide +kernel
theorem dX6_loud_30 : decode cX6_loud 30 = .ok (.iload_n 1, 1) := by decide +kernel
theorem dX6_loud_31 : decode cX6_loud 31 = .ok (.iastore, 1) := by decide +kernel
theorem dX6_loud_32 : decode cX6_loud 32 = .ok (.iload_n 3, 1) := by decide +kernel
theorem dX6_loud_33 : decode cX6_loud 33 = .ok (.ireturn, 1) := by decide +kernel
theorem dX6_hour_0 : decode cX6_hour 0 = .ok (.aload_n 0, 1) := by decide +kernel
theorem dX6_hour_1 : decode cX6_hour 1 = .ok (.getfield 13, 3) := by decide +kernel
theorem dX6_hour_4 : decode cX6_hour 4 = .ok (.iconst 4, 1) := by decide +kernel
theorem dX6_hour_5 : decode cX6_hour 5 = .ok (.iaload, 1) := by decide +kernel
theorem dX6_hour_6 : decode cX6_hour 6 = .ok (.sipush 999, 3) := by decide +kernel
theorem dX6_hour_9 : decode cX6_hour 9 = .ok (.if_icmp .ne 12, 3) := by decide +kernel
theorem dX6_hour_12 : decode cX6_hour 12 = .ok (.aload_n 0, 1) := by decide +kernel
theorem dX6_hour_13 : decode cX6_hour 13 = .ok (.bipush (-6), 2) := by decide +kernel
theorem dX6_hour_15 : decode cX6_hour 15 = .ok (.invokevirtual 120, 3) := by decide +kernel
theorem dX6_hour_18 : decode cX6_hour 18 = .ok (.goto 7, 3) := by decide +kernel
theorem dX6_hour_21 : decode cX6_hour 21 = .ok (.aload_n 0, 1) := by decide +kernel
theorem dX6_hour_22 : decode cX6_hour 22 = .ok (.invokevirtual 99, 3) := by decide +kernel
theorem dX6_hour_25 : decode cX6_hour 25 = .ok (.ireturn, 1) := by decide +kernel
theorem dX6_wrong_0 : decode cX6_wrong 0 = .ok (.iload_n 1, 1) := by decide +kernel
theorem dX6_wrong_1 : decode cX6_wrong 1 = .ok (.ifCond .eq 13, 3) := by decide +kernel
theorem dX6_wrong_4 : decode cX6_wrong 4 = .ok (.iload_n 2, 1) := by decide +kernel
theorem dX6_wrong_5 : decode cX6_wrong 5 = .ok (.iconst 0, 1) := by decide +kernel
theorem dX6_wrong_6 : decode cX6_wrong 6 = .ok (.bipush 60, 2) := by decide +kernel
theorem dX6_wrong_8 : decode cX6_wrong 8 = .ok (.invokestatic 112, 3) := by decide +kernel
theorem dX6_wrong_11 : decode cX6_wrong 11 = .ok (.goto 4, 3) := by decide +kernel
theorem dX6_wrong_14 : decode cX6_wrong 14 = .ok (.iconst (-1), 1) := by decide +kernel
theorem dX6_wrong_15 : decode cX6_wrong 15 = .ok (.ireturn, 1) := by decide +kernel
theorem dX6_hold_0 : decode cX6_hold 0 = .ok (.aload_n 0, 1) := by decide +kernel
theorem dX6_hold_1 : decode cX6_hold 1 = .ok (.aload_n 0, 1) := by decide +kernel
theorem dX6_hold_2 : decode cX6_hold 2 = .ok (.iload_n 1, 1) := by decide +kernel
theorem dX6_hold_3 : decode cX6_hold 3 = .ok (.invokevirtual 144, 3) := by decide +kernel
theorem dX6_hold_6 : decode cX6_hold 6 = .ok (.iload_n 2, 1) := by decide +kernel
theorem dX6_hold_7 : decode cX6_hold 7 = .ok (.invokevirtual 163, 3) := by decide +kernel
theorem dX6_hold_10 : decode cX6_hold 10 = .ok (.istore 4, 2) := by decide +kernel
theorem dX6_hold_12 : decode cX6_hold 12 = .ok (.iload 4, 2) := by decide +kernel
theorem dX6_hold_14 : decode cX6_hold 14 = .ok (.ifCond .ne 15, 3) := by decide +kernel
theorem dX6_hold_17 : decode cX6_hold 17 = .ok (.iload_n 3, 1) := by decide +kernel
theorem dX6_hold_18 : decode cX6_hold 18 = .ok (.iconst 2, 1) := by decide +kernel
theorem dX6_hold_19 : decode cX6_hold 19 = .ok (.invokestatic 53, 3) := by decide +kernel
theorem dX6_hold_22 : decode cX6_hold 22 = .ok (.ifCond .ne 7, 3) := by decide +kernel
theorem dX6_hold_25 : decode cX6_hold 25 = .ok (.bipush (-2), 2) := by decide +kernel
theorem dX6_hold_27 : decode cX6_hold 27 = .ok (.istore 4, 2) := by decide +kernel
theorem dX6_hold_29 : decode cX6_hold 29 = .ok (.iload 4, 2) := by decide +kernel
theorem dX6_hold_31 : decode cX6_hold 31 = .ok (.ifCond .eq 10, 3) := by decide +kernel
theorem dX6_hold_34 : decode cX6_hold 34 = .ok (.aload_n 0, 1) := by decide +kernel
theorem dX6_hold_35 : decode cX6_hold 35 = .ok (.iload 4, 2) := by decide +kernel
theorem dX6_hold_37 : decode cX6_hold 37 = .ok (.invokevirtual 120, 3) := by decide +kernel
theorem dX6_hold_40 : decode cX6_hold 40 = .ok (.ireturn, 1) := by decide +kernel
theorem dX6_hold_41 : decode cX6_hold 41 = .ok (.aload_n 0, 1) := by decide +kernel
theorem dX6_hold_42 : decode cX6_hold 42 = .ok (.invokevirtual 96, 3) := by decide +kernel
theorem dX6_hold_45 : decode cX6_hold 45 = .ok (.aload_n 0, 1) := by decide +kernel
theorem dX6_hold_46 : decode cX6_hold 46 = .ok (.iload_n 2, 1) := by decide +kernel
theorem dX6_hold_47 : decode cX6_hold 47 = .ok (.invokevirtual 103, 3) := by decide +kernel
theorem dX6_hold_50 : decode cX6_hold 50 = .ok (.aload_n 0, 1) := by decide +kernel
theorem dX6_hold_51 : decode cX6_hold 51 = .ok (.iload_n 1, 1) := by decide +kernel
theorem dX6_hold_52 : decode cX6_hold 52 = .ok (.iconst 3, 1) := by decide +kernel
theorem dX6_hold_53 : decode cX6_hold 53 = .ok (.iload_n 3, 1) := by decide +kernel
theorem dX6_hold_54 : decode cX6_hold 54 = .ok (.iadd, 1) := by decide +kernel
theorem dX6_hold_55 : decode cX6_hold 55 = .ok (.invokevirtual 61, 3) := by decide +kernel
theorem dX6_hold_58 : decode cX6_hold 58 = .ok (.istore 5, 2) := by decide +kernel
theorem dX6_hold_60 : decode cX6_hold 60 = .ok (.aload_n 0, 1) := by decide +kernel
theorem dX6_hold_61 : decode cX6_hold 61 = .ok (.invokevirtual 109, 3) := by decide +kernel
theorem dX6_hold_64 : decode cX6_hold 64 = .ok (.iload 5, 2) := by decide +kernel
theorem dX6_hold_66 : decode cX6_hold 66 = .ok (.ireturn, 1) := by decide +kernel
theorem dX6_have_0 : decode cX6_have 0 = .ok (.aload_n 0, 1) := by decide +kernel
theorem dX6_have_1 : decode cX6_have 1 = .ok (.iload_n 1, 1) := by decide +kernel
theorem dX6_have_2 : decode cX6_have 2 = .ok (.iconst (-1), 1) := by decide +kernel
theorem dX6_have_3 : decode cX6_have 3 = .ok (.if_icmp .eq 11, 3) := by decide +kernel
theorem dX6_have_6 : decode cX6_have 6 = .ok (.aload_n 0, 1) := by decide +kernel
theorem dX6_have_7 : decode cX6_have 7 = .ok (.iload_n 1, 1) := by decide +kernel
theorem dX6_have_8 : decode cX6_have 8 = .ok (.invokevirtual 147, 3) := by decide +kernel
theorem dX6_have_11 : decode cX6_have 11 = .ok (.ifCond .eq 7, 3) := by decide +kernel
theorem dX6_have_14 : decode cX6_have 14 = .ok (.iconst 1, 1) := by decide +kernel
theorem dX6_have_15 : decode cX6_have 15 = .ok (.goto 4, 3) := by decide +kernel
theorem dX6_have_18 : decode cX6_have 18 = .ok (.iconst 0, 1) := by decide +kernel
theorem dX6_have_19 : decode cX6_have 19 = .ok (.iload_n 2, 1) := by decide +kernel
theorem dX6_have_20 : decode cX6_have 20 = .ok (.invokevirtual 163, 3) := by decide +kernel
theorem dX6_have_23 : decode cX6_have 23 = .ok (.istore_n 3, 1) := by decide +kernel
theorem dX6_have_24 : decode cX6_have 24 = .ok (.iload_n 3, 1) := by decide +kernel
theorem dX6_have_25 : decode cX6_have 25 = .ok (.ifCond .eq 9, 3) := by decide +kernel
theorem dX6_have_28 : decode cX6_have 28 = .ok (.aload_n 0, 1) := by decide +kernel
theorem dX6_have_29 : decode cX6_have 29 = .ok (.iload_n 3, 1) := by decide +kernel
theorem dX6_have_30 : decode cX6_have 30 = .ok (.invokevirtual 120, 3) := by decide +kernel
theorem dX6_have_33 : decode cX6_have 33 = .ok (.ireturn, 1) := by decide +kernel
theorem dX6_have_34 : decode cX6_have 34 = .ok (.aload_n 0, 1) := by decide +kernel
theorem dX6_have_35 : decode cX6_have 35 = .ok (.invokevirtual 96, 3) := by decide +kernel
theorem dX6_have_38 : decode cX6_have 38 = .ok (.aload_n 0, 1) := by decide +kernel
theorem dX6_have_39 : decode cX6_have 39 = .ok (.iload_n 1, 1) := by decide +kernel
theorem dX6_have_40 : decode cX6_have 40 = .ok (.iload_n 2, 1) := by decide +kernel
theorem dX6_have_41 : decode cX6_have 41 = .ok (.invokevirtual 167, 3) := by decide +kernel
theorem dX6_have_44 : decode cX6_have 44 = .ok (.ireturn, 1) := by decide +kernel
theorem dX6_takes__0 : decode cX6_takes_ 0 = .ok (.aload_n 0, 1) := by decide +kernel
theorem dX6_takes__1 : decode cX6_takes_ 1 = .ok (.iload_n 1, 1) := by decide +kernel
theorem dX6_takes__2 : decode cX6_takes_ 2 = .ok (.invokevirtual 144, 3) := by decide +kernel
theorem dX6_takes__5 : decode cX6_takes_ 5 = .ok (.ifCond .eq 11, 3) := by decide +kernel
theorem dX6_takes__8 : decode cX6_takes_ 8 = .ok (.aload_n 0, 1) := by decide +kernel
theorem dX6_takes__9 : decode cX6_takes_ 9 = .ok (.iload_n 2, 1) := by decide +kernel
theorem dX6_takes__10 : decode cX6_takes_ 10 = .ok (.invokevirtual 147, 3) := by decide +kernel
theorem dX6_takes__13 : decode cX6_takes_ 13 = .ok (.ifCond .ne 9, 3) := by decide +kernel
theorem dX6_takes__16 : decode cX6_takes_ 16 = .ok (.aload_n 0, 1) := by decide +kernel
theorem dX6_takes__17 : decode cX6_takes_ 17 = .ok (.iconst (-1), 1) := by decide +kernel
theorem dX6_takes__18 : decode cX6_takes_ 18 = .ok (.invokevirtual 120, 3) := by decide +kernel
theorem dX6_takes__21 : decode cX6_takes_ 21 = .ok (.ireturn, 1) := by decide +kernel
theorem dX6_takes__22 : decode cX6_takes_ 22 = .ok (.aload_n 0, 1) := by decide +kernel
theorem dX6_takes__23 : decode cX6_takes_ 23 = .ok (.invokevirtual 96, 3) := by decide +kernel
theorem dX6_takes__26 : decode cX6_takes_ 26 = .ok (.bipush (-9), 2) := by decide +kernel
theorem dX6_takes__28 : decode cX6_takes_ 28 = .ok (.istore_n 3, 1) := by decide +kernel
theorem dX6_takes__29 : decode cX6_takes_ 29 = .ok (.iconst 0, 1) := by decide +kernel
theorem dX6_takes__30 : decode cX6_takes_ 30 = .ok (.istore 4, 2) := by decide +kernel
theorem dX6_takes__32 : decode cX6_takes_ 32 = .ok (.iload 4, 2) := by decide +kernel
theorem dX6_takes__34 : decode cX6_takes_ 34 = .ok (.bipush 60, 2) := by decide +kernel
theorem dX6_takes__36 : decode cX6_takes_ 36 = .ok (.if_icmp .gt 36, 3) := by decide +kernel
theorem dX6_takes__39 : decode cX6_takes_ 39 = .ok (.iload_n 3, 1) := by decide +kernel
theorem dX6_takes__40 : decode cX6_takes_ 40 = .ok (.ifCond .ge 32, 3) := by decide +kernel
theorem dX6_takes__43 : decode cX6_takes_ 43 = .ok (.aload_n 0, 1) := by decide +kernel
theorem dX6_takes__44 : decode cX6_takes_ 44 = .ok (.iload_n 1, 1) := by decide +kernel
theorem dX6_takes__45 : decode cX6_takes_ 45 = .ok (.iconst 3, 1) := by decide +kernel
theorem dX6_takes__46 : decode cX6_takes_ 46 = .ok (.invokevirtual 61, 3) := by decide +kernel
theorem dX6_takes__49 : decode cX6_takes_ 49 = .ok (.iload_n 2, 1) := by decide +kernel
theorem dX6_takes__50 : decode cX6_takes_ 50 = .ok (.if_icmp .ne 8, 3) := by decide +kernel
theorem dX6_takes__53 : decode cX6_takes_ 53 = .ok (.iload 4, 2) := by decide +kernel
theorem dX6_takes__55 : decode cX6_takes_ 55 = .ok (.goto 5, 3) := by decide +kernel
theorem dX6_takes__58 : decode cX6_takes_ 58 = .ok (.bipush (-9), 2) := by decide +kernel
theorem dX6_takes__60 : decode cX6_takes_ 60 = .ok (.istore_n 3, 1) := by decide +kernel
theorem dX6_takes__61 : decode cX6_takes_ 61 = .ok (.aload_n 0, 1) := by decide +kernel
theorem dX6_takes__62 : decode cX6_takes_ 62 = .ok (.invokevirtual 99, 3) := by decide +kernel
theorem dX6_takes__65 : decode cX6_takes_ 65 = .ok (.pop, 1) := by decide +kernel
theorem dX6_takes__66 : decode cX6_takes_ 66 = .ok (.iinc 4 1, 3) := by decide +kernel
theorem dX6_takes__69 : decode cX6_takes_ 69 = .ok (.goto (-37), 3) := by decide +kernel
theorem dX6_takes__72 : decode cX6_takes_ 72 = .ok (.aload_n 0, 1) := by decide +kernel
theorem dX6_takes__73 : decode cX6_takes_ 73 = .ok (.invokevirtual 109, 3) := by decide +kernel
theorem dX6_takes__76 : decode cX6_takes_ 76 = .ok (.iload_n 3, 1) := by decide +kernel
theorem dX6_takes__77 : decode cX6_takes_ 77 = .ok (.ireturn, 1) := by decide +kernel
theorem dX6_still_0 : decode cX6_still 0 = .ok (.aload_n 0, 1) := by decide +kernel
theorem dX6_still_1 : decode cX6_still 1 = .ok (.invokevirtual 96, 3) := by decide +kernel
theorem dX6_still_4 : decode cX6_still 4 = .ok (.bipush (-9), 2) := by decide +kernel
theorem dX6_still_6 : decode cX6_still 6 = .ok (.istore_n 1, 1) := by decide +kernel
theorem dX6_still_7 : decode cX6_still 7 = .ok (.iconst 0, 1) := by decide +kernel
theorem dX6_still_8 : decode cX6_still 8 = .ok (.istore_n 2, 1) := by decide +kernel
theorem dX6_still_9 : decode cX6_still 9 = .ok (.iload_n 2, 1) := by decide +kernel
theorem dX6_still_10 : decode cX6_still 10 = .ok (.bipush 60, 2) := by decide +kernel
theorem dX6_still_12 : decode cX6_still 12 = .ok (.if_icmp .gt 33, 3) := by decide +kernel
theorem dX6_still_15 : decode cX6_still 15 = .ok (.iload_n 1, 1) := by decide +kernel
theorem dX6_still_16 : decode cX6_still 16 = .ok (.ifCond .ge 29, 3) := by decide +kernel
theorem dX6_still_19 : decode cX6_still 19 = .ok (.aload_n 0, 1) := by decide +kernel
theorem dX6_still_20 : decode cX6_still 20 = .ok (.iconst (-1), 1) := by decide +kernel
theorem dX6_still_21 : decode cX6_still 21 = .ok (.invokevirtual 106, 3) := by decide +kernel
theorem dX6_still_24 : decode cX6_still 24 = .ok (.ifCond .ne 7, 3) := by decide +kernel
theorem dX6_still_27 : decode cX6_still 27 = .ok (.iload_n 2, 1) := by decide +kernel
theorem dX6_still_28 : decode cX6_still 28 = .ok (.goto 5, 3) := by decide +kernel
theorem dX6_still_31 : decode cX6_still 31 = .ok (.bipush (-9), 2) := by decide +kernel
theorem dX6_still_33 : decode cX6_still 33 = .ok (.istore_n 1, 1) := by decide +kernel
theorem dX6_still_34 : decode cX6_still 34 = .ok (.aload_n 0, 1) := by decide +kernel
theorem dX6_still_35 : decode cX6_still 35 = .ok (.invokevirtual 99, 3) := by decide +kernel
theorem dX6_still_38 : decode cX6_still 38 = .ok (.pop, 1) := by decide +kernel
theorem dX6_still_39 : decode cX6_still 39 = .ok (.iinc 2 1, 3) := by decide +kernel
theorem dX6_still_42 : decode cX6_still 42 = .ok (.goto (-33), 3) := by decide +kernel
theorem dX6_still_45 : decode cX6_still 45 = .ok (.aload_n 0, 1) := by decide +kernel
theorem dX6_still_46 : decode cX6_still 46 = .ok (.invokevirtual 109, 3) := by decide +kernel
theorem dX6_still_49 : decode cX6_still 49 = .ok (.iload_n 1, 1) := by decide +kernel
theorem dX6_still_50 : decode cX6_still 50 = .ok (.ireturn, 1) := by decide +kernel
theorem dX6_most_0 : decode cX6_most 0 = .ok (.aload_n 0, 1) := by decide +kernel
theorem dX6_most_1 : decode cX6_most 1 = .ok (.iload_n 1, 1) := by decide +kernel
theorem dX6_most_2 : decode cX6_most 2 = .ok (.iconst (-1), 1) := by decide +kernel
theorem dX6_most_3 : decode cX6_most 3 = .ok (.if_icmp .eq 11, 3) := by decide +kernel
theorem dX6_most_6 : decode cX6_most 6 = .ok (.aload_n 0, 1) := by decide +kernel
theorem dX6_most_7 : decode cX6_most 7 = .ok (.iload_n 1, 1) := by decide +kernel
theorem dX6_most_8 : decode cX6_most 8 = .ok (.invokevirtual 147, 3) := by decide +kernel
theorem dX6_most_11 : decode cX6_most 11 = .ok (.ifCond .eq 7, 3) := by decide +kernel
theorem dX6_most_14 : decode cX6_most 14 = .ok (.iconst 1, 1) := by decide +kernel
theorem dX6_most_15 : decode cX6_most 15 = .ok (.goto 4, 3) := by decide +kernel
theorem dX6_most_18 : decode cX6_most 18 = .ok (.iconst 0, 1) := by decide +kernel
theorem dX6_most_19 : decode cX6_most 19 = .ok (.iload_n 2, 1) := by decide +kernel
theorem dX6_most_20 : decode cX6_most 20 = .ok (.invokevirtual 163, 3) := by decide +kernel
theorem dX6_most_23 : decode cX6_most 23 = .ok (.istore 4, 2) := by decide +kernel
theorem dX6_most_25 : decode cX6_most 25 = .ok (.iload 4, 2) := by decide +kernel
theorem dX6_most_27 : decode cX6_most 27 = .ok (.ifCond .ne 15, 3) := by decide +kernel
theorem dX6_most_30 : decode cX6_most 30 = .ok (.iload_n 3, 1) := by decide +kernel
theorem dX6_most_31 : decode cX6_most 31 = .ok (.iconst 2, 1) := by decide +kernel
theorem dX6_most_32 : decode cX6_most 32 = .ok (.invokestatic 53, 3) := by decide +kernel
theorem dX6_most_35 : decode cX6_most 35 = .ok (.ifCond .ne 7, 3) := by decide +kernel
theorem dX6_most_38 : decode cX6_most 38 = .ok (.bipush (-2), 2) := by decide +kernel
theorem dX6_most_40 : decode cX6_most 40 = .ok (.istore 4, 2) := by decide +kernel
theorem dX6_most_42 : decode cX6_most 42 = .ok (.iload 4, 2) := by decide +kernel
theorem dX6_most_44 : decode cX6_most 44 = .ok (.ifCond .eq 10, 3) := by decide +kernel
theorem dX6_most_47 : decode cX6_most 47 = .ok (.aload_n 0, 1) := by decide +kernel
theorem dX6_most_48 : decode cX6_most 48 = .ok (.iload 4, 2) := by decide +kernel
theorem dX6_most_50 : decode cX6_most 50 = .ok (.invokevirtual 120, 3) := by decide +kernel
theorem dX6_most_53 : decode cX6_most 53 = .ok (.ireturn, 1) := by decide +kernel
theorem dX6_most_54 : decode cX6_most 54 = .ok (.aload_n 0, 1) := by decide +kernel
theorem dX6_most_55 : decode cX6_most 55 = .ok (.invokevirtual 96, 3) := by decide +kernel
theorem dX6_most_58 : decode cX6_most 58 = .ok (.bipush (-9), 2) := by decide +kernel
theorem dX6_most_60 : decode cX6_most 60 = .ok (.istore 5, 2) := by decide +kernel
theorem dX6_most_62 : decode cX6_most 62 = .ok (.bipush (-9), 2) := by decide +kernel
theorem dX6_most_64 : decode cX6_most 64 = .ok (.istore 6, 2) := by decide +kernel
theorem dX6_most_66 : decode cX6_most 66 = .ok (.iconst 0, 1) := by decide +kernel
theorem dX6_most_67 : decode cX6_most 67 = .ok (.istore 7, 2) := by decide +kernel
theorem dX6_most_69 : decode cX6_most 69 = .ok (.iload 7, 2) := by decide +kernel
theorem dX6_most_71 : decode cX6_most 71 = .ok (.iload_n 2, 1) := by decide +kernel
theorem dX6_most_72 : decode cX6_most 72 = .ok (.if_icmp .gt 53, 3) := by decide +kernel
theorem dX6_most_75 : decode cX6_most 75 = .ok (.aload_n 0, 1) := by decide +kernel
theorem dX6_most_76 : decode cX6_most 76 = .ok (.iload_n 1, 1) := by decide +kernel
theorem dX6_most_77 : decode cX6_most 77 = .ok (.invokevirtual 106, 3) := by decide +kernel
theorem dX6_most_80 : decode cX6_most 80 = .ok (.istore 8, 2) := by decide +kernel
theorem dX6_most_82 : decode cX6_most 82 = .ok (.iload 8, 2) := by decide +kernel
theorem dX6_most_84 : decode cX6_most 84 = .ok (.iload 6, 2) := by decide +kernel
theorem dX6_most_86 : decode cX6_most 86 = .ok (.if_icmp .le 8, 3) := by decide +kernel
theorem dX6_most_89 : decode cX6_most 89 = .ok (.iload 7, 2) := by decide +kernel
theorem dX6_most_91 : decode cX6_most 91 = .ok (.goto 5, 3) := by decide +kernel
theorem dX6_most_94 : decode cX6_most 94 = .ok (.iload 5, 2) := by decide +kernel
theorem dX6_most_96 : decode cX6_most 96 = .ok (.istore 5, 2) := by decide +kernel
theorem dX6_most_98 : decode cX6_most 98 = .ok (.iload 8, 2) := by decide +kernel
theorem dX6_most_100 : decode cX6_most 100 = .ok (.iload 6, 2) := by decide +kernel
theorem dX6_most_102 : decode cX6_most 102 = .ok (.if_icmp .le 8, 3) := by decide +kernel
theorem dX6_most_105 : decode cX6_most 105 = .ok (.iload 8, 2) := by decide +kernel
theorem dX6_most_107 : decode cX6_most 107 = .ok (.goto 5, 3) := by decide +kernel
theorem dX6_most_110 : decode cX6_most 110 = .ok (.iload 6, 2) := by decide +kernel
theorem dX6_most_112 : decode cX6_most 112 = .ok (.istore 6, 2) := by decide +kernel
theorem dX6_most_114 : decode cX6_most 114 = .ok (.aload_n 0, 1) := by decide +kernel
theorem dX6_most_115 : decode cX6_most 115 = .ok (.invokevirtual 99, 3) := by decide +kernel
theorem dX6_most_118 : decode cX6_most 118 = .ok (.pop, 1) := by decide +kernel
theorem dX6_most_119 : decode cX6_most 119 = .ok (.iinc 7 1, 3) := by decide +kernel
theorem dX6_most_122 : decode cX6_most 122 = .ok (.goto (-53), 3) := by decide +kernel
theorem dX6_most_125 : decode cX6_most 125 = .ok (.aload_n 0, 1) := by decide +kernel
theorem dX6_most_126 : decode cX6_most 126 = .ok (.invokevirtual 109, 3) := by decide +kernel
theorem dX6_most_129 : decode cX6_most 129 = .ok (.iload_n 3, 1) := by decide +kernel
theorem dX6_most_130 : decode cX6_most 130 = .ok (.ifCond .ne 8, 3) := by decide +kernel
theorem dX6_most_133 : decode cX6_most 133 = .ok (.iload 5, 2) := by decide +kernel
theorem dX6_most_135 : decode cX6_most 135 = .ok (.goto 5, 3) := by decide +kernel
theorem dX6_most_138 : decode cX6_most 138 = .ok (.iload 6, 2) := by decide +kernel
theorem dX6_most_140 : decode cX6_most 140 = .ok (.ireturn, 1) := by decide +kernel
theorem dX6_lasts_0 : decode cX6_lasts 0 = .ok (.iload_n 1, 1) := by decide +kernel
theorem dX6_lasts_1 : decode cX6_lasts 1 = .ok (.iconst 0, 1) := by decide +kernel
theorem dX6_lasts_2 : decode cX6_lasts 2 = .ok (.bipush 60, 2) := by decide +kernel
theorem dX6_lasts_4 : decode cX6_lasts 4 = .ok (.invokestatic 112, 3) := by decide +kernel
theorem dX6_lasts_7 : decode cX6_lasts 7 = .ok (.istore_n 2, 1) := by decide +kernel
theorem dX6_lasts_8 : decode cX6_lasts 8 = .ok (.iload_n 2, 1) := by decide +kernel
theorem dX6_lasts_9 : decode cX6_lasts 9 = .ok (.ifCond .eq 9, 3) := by decide +kernel
theorem dX6_lasts_12 : decode cX6_lasts 12 = .ok (.aload_n 0, 1) := by decide +kernel
theorem dX6_lasts_13 : decode cX6_lasts 13 = .ok (.iload_n 2, 1) := by decide +kernel
theorem dX6_lasts_14 : decode cX6_lasts 14 = .ok (.invokevirtual 120, 3) := by decide +kernel
theorem dX6_lasts_17 : decode cX6_lasts 17 = .ok (.ireturn, 1) := by decide +kernel
theorem dX6_lasts_18 : decode cX6_lasts 18 = .ok (.aload_n 0, 1) := by decide +kernel
theorem dX6_lasts_19 : decode cX6_lasts 19 = .ok (.invokevirtual 96, 3) := by decide +kernel
theorem dX6_lasts_22 : decode cX6_lasts 22 = .ok (.aload_n 0, 1) := by decide +kernel
theorem dX6_lasts_23 : decode cX6_lasts 23 = .ok (.iload_n 1, 1) := by decide +kernel
theorem dX6_lasts_24 : decode cX6_lasts 24 = .ok (.invokevirtual 103, 3) := by decide +kernel
theorem dX6_lasts_27 : decode cX6_lasts 27 = .ok (.bipush (-9), 2) := by decide +kernel
theorem dX6_lasts_29 : decode cX6_lasts 29 = .ok (.istore_n 3, 1) := by decide +kernel
theorem dX6_lasts_30 : decode cX6_lasts 30 = .ok (.iconst 0, 1) := by decide +kernel
theorem dX6_lasts_31 : decode cX6_lasts 31 = .ok (.istore 4, 2) := by decide +kernel
theorem dX6_lasts_33 : decode cX6_lasts 33 = .ok (.iconst 0, 1) := by decide +kernel
theorem dX6_lasts_34 : decode cX6_lasts 34 = .ok (.istore 5, 2) := by decide +kernel
theorem dX6_lasts_36 : decode cX6_lasts 36 = .ok (.iload 5, 2) := by decide +kernel
theorem dX6_lasts_38 : decode cX6_lasts 38 = .ok (.aload_n 0, 1) := by decide +kernel
theorem dX6_lasts_39 : decode cX6_lasts 39 = .ok (.getfield 13, 3) := by decide +kernel
theorem dX6_lasts_42 : decode cX6_lasts 42 = .ok (.iconst 2, 1) := by decide +kernel
theorem dX6_lasts_43 : decode cX6_lasts 43 = .ok (.iaload, 1) := by decide +kernel
theorem dX6_lasts_44 : decode cX6_lasts 44 = .ok (.if_icmp .ge 51, 3) := by decide +kernel
theorem dX6_lasts_47 : decode cX6_lasts 47 = .ok (.aload_n 0, 1) := by decide +kernel
theorem dX6_lasts_48 : decode cX6_lasts 48 = .ok (.iload 5, 2) := by decide +kernel
theorem dX6_lasts_50 : decode cX6_lasts 50 = .ok (.invokevirtual 106, 3) := by decide +kernel
theorem dX6_lasts_53 : decode cX6_lasts 53 = .ok (.iload 4, 2) := by decide +kernel
theorem dX6_lasts_55 : decode cX6_lasts 55 = .ok (.if_icmp .le 8, 3) := by decide +kernel
theorem dX6_lasts_58 : decode cX6_lasts 58 = .ok (.iload 5, 2) := by decide +kernel
theorem dX6_lasts_60 : decode cX6_lasts 60 = .ok (.goto 4, 3) := by decide +kernel
theorem dX6_lasts_63 : decode cX6_lasts 63 = .ok (.iload_n 3, 1) := by decide +kernel
theorem dX6_lasts_64 : decode cX6_lasts 64 = .ok (.istore_n 3, 1) := by decide +kernel
theorem dX6_lasts_65 : decode cX6_lasts 65 = .ok (.aload_n 0, 1) := by decide +kernel
theorem dX6_lasts_66 : decode cX6_lasts 66 = .ok (.iload 5, 2) := by decide +kernel
theorem dX6_lasts_68 : decode cX6_lasts 68 = .ok (.invokevirtual 106, 3) := by decide +kernel
theorem dX6_lasts_71 : decode cX6_lasts 71 = .ok (.iload 4, 2) := by decide +kernel
theorem dX6_lasts_73 : decode cX6_lasts 73 = .ok (.if_icmp .le 12, 3) := by decide +kernel
theorem dX6_lasts_76 : decode cX6_lasts 76 = .ok (.aload_n 0, 1) := by decide +kernel
theorem dX6_lasts_77 : decode cX6_lasts 77 = .ok (.iload 5, 2) := by decide +kernel
theorem dX6_lasts_79 : decode cX6_lasts 79 = .ok (.invokevirtual 106, 3) := by decide +kernel
theorem dX6_lasts_82 : decode cX6_lasts 82 = .ok (.goto 5, 3) := by decide +kernel
theorem dX6_lasts_85 : decode cX6_lasts 85 = .ok (.iload 4, 2) := by decide +kernel
theorem dX6_lasts_87 : decode cX6_lasts 87 = .ok (.istore 4, 2) := by decide +kernel
theorem dX6_lasts_89 : decode cX6_lasts 89 = .ok (.iinc 5 1, 3) := by decide +kernel
theorem dX6_lasts_92 : decode cX6_lasts 92 = .ok (.goto (-56), 3) := by decide +kernel
theorem dX6_lasts_95 : decode cX6_lasts 95 = .ok (.aload_n 0, 1) := by decide +kernel
theorem dX6_lasts_96 : decode cX6_lasts 96 = .ok (.invokevirtual 109, 3) := by decide +kernel
theorem dX6_lasts_99 : decode cX6_lasts 99 = .ok (.iload_n 3, 1) := by decide +kernel
theorem dX6_lasts_100 : decode cX6_lasts 100 = .ok (.ireturn, 1) := by decide +kernel
theorem dX6_wentBy_0 : decode cX6_wentBy 0 = .ok (.aload_n 0, 1) := by decide +kernel
theorem dX6_wentBy_1 : decode cX6_wentBy 1 = .ok (.aload_n 0, 1) := by decide +kernel
theorem dX6_wentBy_2 : decode cX6_wentBy 2 = .ok (.iload_n 1, 1) := by decide +kernel
theorem dX6_wentBy_3 : decode cX6_wentBy 3 = .ok (.invokevirtual 144, 3) := by decide +kernel
theorem dX6_wentBy_6 : decode cX6_wentBy 6 = .ok (.iload_n 2, 1) := by decide +kernel
theorem dX6_wentBy_7 : decode cX6_wentBy 7 = .ok (.invokevirtual 163, 3) := by decide +kernel
theorem dX6_wentBy_10 : decode cX6_wentBy 10 = .ok (.istore 4, 2) := by decide +kernel
theorem dX6_wentBy_12 : decode cX6_wentBy 12 = .ok (.iload 4, 2) := by decide +kernel
theorem dX6_wentBy_14 : decode cX6_wentBy 14 = .ok (.ifCond .eq 10, 3) := by decide +kernel
theorem dX6_wentBy_17 : decode cX6_wentBy 17 = .ok (.aload_n 0, 1) := by decide +kernel
theorem dX6_wentBy_18 : decode cX6_wentBy 18 = .ok (.iload 4, 2) := by decide +kernel
theorem dX6_wentBy_20 : decode cX6_wentBy 20 = .ok (.invokevirtual 120, 3) := by decide +kernel
theorem dX6_wentBy_23 : decode cX6_wentBy 23 = .ok (.ireturn, 1) := by decide +kernel
theorem dX6_wentBy_24 : decode cX6_wentBy 24 = .ok (.aload_n 0, 1) := by decide +kernel
theorem dX6_wentBy_25 : decode cX6_wentBy 25 = .ok (.invokevirtual 170, 3) := by decide +kernel
theorem dX6_wentBy_28 : decode cX6_wentBy 28 = .ok (.aload_n 0, 1) := by decide +kernel
theorem dX6_wentBy_29 : decode cX6_wentBy 29 = .ok (.iload_n 2, 1) := by decide +kernel
theorem dX6_wentBy_30 : decode cX6_wentBy 30 = .ok (.invokevirtual 103, 3) := by decide +kernel
theorem dX6_wentBy_33 : decode cX6_wentBy 33 = .ok (.aload_n 0, 1) := by decide +kernel
theorem dX6_wentBy_34 : decode cX6_wentBy 34 = .ok (.iload_n 1, 1) := by decide +kernel
theorem dX6_wentBy_35 : decode cX6_wentBy 35 = .ok (.iconst 3, 1) := by decide +kernel
theorem dX6_wentBy_36 : decode cX6_wentBy 36 = .ok (.invokevirtual 61, 3) := by decide +kernel
theorem dX6_wentBy_39 : decode cX6_wentBy 39 = .ok (.ifCond .ge 8, 3) := by decide +kernel
theorem dX6_wentBy_42 : decode cX6_wentBy 42 = .ok (.bipush (-9), 2) := by decide +kernel
theorem dX6_wentBy_44 : decode cX6_wentBy 44 = .ok (.goto 22, 3) := by decide +kernel
theorem dX6_wentBy_47 : decode cX6_wentBy 47 = .ok (.iload_n 3, 1) := by decide +kernel
theorem dX6_wentBy_48 : decode cX6_wentBy 48 = .ok (.ifCond .eq 12, 3) := by decide +kernel
theorem dX6_wentBy_51 : decode cX6_wentBy 51 = .ok (.aload_n 0, 1) := by decide +kernel
theorem dX6_wentBy_52 : decode cX6_wentBy 52 = .ok (.getfield 34, 3) := by decide +kernel
theorem dX6_wentBy_55 : decode cX6_wentBy 55 = .ok (.iload_n 1, 1) := by decide +kernel
theorem dX6_wentBy_56 : decode cX6_wentBy 56 = .ok (.iaload, 1) := by decide +kernel
theorem dX6_wentBy_57 : decode cX6_wentBy 57 = .ok (.goto 9, 3) := by decide +kernel
theorem dX6_wentBy_60 : decode cX6_wentBy 60 = .ok (.aload_n 0, 1) := by decide +kernel
theorem dX6_wentBy_61 : decode cX6_wentBy 61 = .ok (.getfield 31, 3) := by decide +kernel
theorem dX6_wentBy_64 : decode cX6_wentBy 64 = .ok (.iload_n 1, 1) := by decide +kernel
theorem dX6_wentBy_65 : decode cX6_wentBy 65 = .ok (.iaload, 1) := by decide +kernel
theorem dX6_wentBy_66 : decode cX6_wentBy 66 = .ok (.istore 5, 2) := by decide +kernel
theorem dX6_wentBy_68 : decode cX6_wentBy 68 = .ok (.aload_n 0, 1) := by decide +kernel
theorem dX6_wentBy_69 : decode cX6_wentBy 69 = .ok (.invokevirtual 109, 3) := by decide +kernel
theorem dX6_wentBy_72 : decode cX6_wentBy 72 = .ok (.iload 5, 2) := by decide +kernel
theorem dX6_wentBy_74 : decode cX6_wentBy 74 = .ok (.ireturn, 1) := by decide +kernel
theorem dX6_from_0 : decode cX6_from 0 = .ok (.aload_n 0, 1) := by decide +kernel
theorem dX6_from_1 : decode cX6_from 1 = .ok (.iload_n 1, 1) := by decide +kernel
theorem dX6_from_2 : decode cX6_from 2 = .ok (.iload_n 2, 1) := by decide +kernel
theorem dX6_from_3 : decode cX6_from 3 = .ok (.iconst 0, 1) := by decide +kernel
theorem dX6_from_4 : decode cX6_from 4 = .ok (.invokevirtual 173, 3) := by decide +kernel
theorem dX6_from_7 : decode cX6_from 7 = .ok (.ireturn, 1) := by decide +kernel
theorem dX6_first_0 : decode cX6_first 0 = .ok (.aload_n 0, 1) := by decide +kernel
theorem dX6_first_1 : decode cX6_first 1 = .ok (.iload_n 1, 1) := by decide +kernel
theorem dX6_first_2 : decode cX6_first 2 = .ok (.iload_n 2, 1) := by decide +kernel
theorem dX6_first_3 : decode cX6_first 3 = .ok (.iconst 1, 1) := by decide +kernel
theorem dX6_first_4 : decode cX6_first 4 = .ok (.invokevirtual 173, 3) := by decide +kernel
theorem dX6_first_7 : decode cX6_first 7 = .ok (.ireturn, 1) := by decide +kernel
theorem dX6_ridOf_0 : decode cX6_ridOf 0 = .ok (.bipush (-9), 2) := by decide +kernel
theorem dX6_ridOf_2 : decode cX6_ridOf 2 = .ok (.istore_n 2, 1) := by decide +kernel
theorem dX6_ridOf_3 : decode cX6_ridOf 3 = .ok (.iconst 0, 1) := by decide +kernel
theorem dX6_ridOf_4 : decode cX6_ridOf 4 = .ok (.istore_n 3, 1) := by decide +kernel
theorem dX6_ridOf_5 : decode cX6_ridOf 5 = .ok (.iload_n 3, 1) := by decide +kernel
theorem dX6_ridOf_6 : decode cX6_ridOf 6 = .ok (.bipush 60, 2) := by decide +kernel
theorem dX6_ridOf_8 : decode cX6_ridOf 8 = .ok (.if_icmp .gt 34, 3) := by decide +kernel
theorem dX6_ridOf_11 : decode cX6_ridOf 11 = .ok (.iload_n 2, 1) := by decide +kernel
theorem dX6_ridOf_12 : decode cX6_ridOf 12 = .ok (.ifCond .ge 30, 3) := by decide +kernel
theorem dX6_ridOf_15 : decode cX6_ridOf 15 = .ok (.aload_n 0, 1) := by decide +kernel
theorem dX6_ridOf_16 : decode cX6_ridOf 16 = .ok (.iload_n 1, 1) := by decide +kernel
theorem dX6_ridOf_17 : decode cX6_ridOf 17 = .ok (.iconst 3, 1) := by decide +kernel
theorem dX6_ridOf_18 : decode cX6_ridOf 18 = .ok (.invokevirtual 61, 3) := by decide +kernel
theorem dX6_ridOf_21 : decode cX6_ridOf 21 = .ok (.ifCond .ge 7, 3) := by decide +kernel
theorem dX6_ridOf_24 : decode cX6_ridOf 24 = .ok (.iload_n 3, 1) := by decide +kernel
theorem dX6_ridOf_25 : decode cX6_ridOf 25 = .ok (.goto 5, 3) := by decide +kernel
theorem dX6_ridOf_28 : decode cX6_ridOf 28 = .ok (.bipush (-9), 2) := by decide +kernel
theorem dX6_ridOf_30 : decode cX6_ridOf 30 = .ok (.istore_n 2, 1) := by decide +kernel
theorem dX6_ridOf_31 : decode cX6_ridOf 31 = .ok (.aload_n 0, 1) := by decide +kernel
theorem dX6_ridOf_32 : decode cX6_ridOf 32 = .ok (.invokevirtual 99, 3) := by decide +kernel
theorem dX6_ridOf_35 : decode cX6_ridOf 35 = .ok (.pop, 1) := by decide +kernel
theorem dX6_ridOf_36 : decode cX6_ridOf 36 = .ok (.iinc 3 1, 3) := by decide +kernel
theorem dX6_ridOf_39 : decode cX6_ridOf 39 = .ok (.goto (-34), 3) := by decide +kernel
theorem dX6_ridOf_42 : decode cX6_ridOf 42 = .ok (.aload_n 0, 1) := by decide +kernel
theorem dX6_ridOf_43 : decode cX6_ridOf 43 = .ok (.invokevirtual 109, 3) := by decide +kernel
theorem dX6_ridOf_46 : decode cX6_ridOf 46 = .ok (.iload_n 2, 1) := by decide +kernel
theorem dX6_ridOf_47 : decode cX6_ridOf 47 = .ok (.ireturn, 1) := by decide +kernel
theorem dX6_rid_0 : decode cX6_rid 0 = .ok (.aload_n 0, 1) := by decide +kernel
theorem dX6_rid_1 : decode cX6_rid 1 = .ok (.iload_n 1, 1) := by decide +kernel
theorem dX6_rid_2 : decode cX6_rid 2 = .ok (.invokevirtual 144, 3) := by decide +kernel
theorem dX6_rid_5 : decode cX6_rid 5 = .ok (.ifCond .ne 7, 3) := by decide +kernel
theorem dX6_rid_8 : decode cX6_rid 8 = .ok (.iconst (-1), 1) := by decide +kernel
theorem dX6_rid_9 : decode cX6_rid 9 = .ok (.goto 31, 3) := by decide +kernel
theorem dX6_rid_12 : decode cX6_rid 12 = .ok (.iload_n 2, 1) := by decide +kernel
theorem dX6_rid_13 : decode cX6_rid 13 = .ok (.iconst 2, 1) := by decide +kernel
theorem dX6_rid_14 : decode cX6_rid 14 = .ok (.invokestatic 53, 3) := by decide +kernel
theorem dX6_rid_17 : decode cX6_rid 17 = .ok (.ifCond .ne 8, 3) := by decide +kernel
theorem dX6_rid_20 : decode cX6_rid 20 = .ok (.bipush (-2), 2) := by decide +kernel
theorem dX6_rid_22 : decode cX6_rid 22 = .ok (.goto 18, 3) := by decide +kernel
theorem dX6_rid_25 : decode cX6_rid 25 = .ok (.aload_n 0, 1) := by decide +kernel
theorem dX6_rid_26 : decode cX6_rid 26 = .ok (.iload_n 1, 1) := by decide +kernel
theorem dX6_rid_27 : decode cX6_rid 27 = .ok (.iconst 3, 1) := by decide +kernel
theorem dX6_rid_28 : decode cX6_rid 28 = .ok (.invokevirtual 61, 3) := by decide +kernel
theorem dX6_rid_31 : decode cX6_rid 31 = .ok (.ifCond .ge 8, 3) := by decide +kernel
theorem dX6_rid_34 : decode cX6_rid 34 = .ok (.bipush (-3), 2) := by decide +kernel
theorem dX6_rid_36 : decode cX6_rid 36 = .ok (.goto 4, 3) := by decide +kernel
theorem dX6_rid_39 : decode cX6_rid 39 = .ok (.iconst 0, 1) := by decide +kernel
theorem dX6_rid_40 : decode cX6_rid 40 = .ok (.istore_n 3, 1) := by decide +kernel
theorem dX6_rid_41 : decode cX6_rid 41 = .ok (.iload_n 3, 1) := by decide +kernel
theorem dX6_rid_42 : decode cX6_rid 42 = .ok (.ifCond .eq 9, 3) := by decide +kernel
theorem dX6_rid_45 : decode cX6_rid 45 = .ok (.aload_n 0, 1) := by decide +kernel
theorem dX6_rid_46 : decode cX6_rid 46 = .ok (.iload_n 3, 1) := by decide +kernel
theorem dX6_rid_47 : decode cX6_rid 47 = .ok (.invokevirtual 120, 3) := by decide +kernel
theorem dX6_rid_50 : decode cX6_rid 50 = .ok (.ireturn, 1) := by decide +kernel
theorem dX6_rid_51 : decode cX6_rid 51 = .ok (.aload_n 0, 1) := by decide +kernel
theorem dX6_rid_52 : decode cX6_rid 52 = .ok (.invokevirtual 96, 3) := by decide +kernel
theorem dX6_rid_55 : decode cX6_rid 55 = .ok (.bipush (-9), 2) := by decide +kernel
theorem dX6_rid_57 : decode cX6_rid 57 = .ok (.istore 4, 2) := by decide +kernel
theorem dX6_rid_59 : decode cX6_rid 59 = .ok (.bipush (-9), 2) := by decide +kernel
theorem dX6_rid_61 : decode cX6_rid 61 = .ok (.istore 5, 2) := by decide +kernel
theorem dX6_rid_63 : decode cX6_rid 63 = .ok (.iconst 0, 1) := by decide +kernel
theorem dX6_rid_64 : decode cX6_rid 64 = .ok (.istore 6, 2) := by decide +kernel
theorem dX6_rid_66 : decode cX6_rid 66 = .ok (.iload 6, 2) := by decide +kernel
theorem dX6_rid_68 : decode cX6_rid 68 = .ok (.iconst 4, 1) := by decide +kernel
theorem dX6_rid_69 : decode cX6_rid 69 = .ok (.if_icmp .ge 51, 3) := by decide +kernel
theorem dX6_rid_72 : decode cX6_rid 72 = .ok (.aload_n 0, 1) := by decide +kernel
theorem dX6_rid_73 : decode cX6_rid 73 = .ok (.iload_n 1, 1) := by decide +kernel
theorem dX6_rid_74 : decode cX6_rid 74 = .ok (.iload 6, 2) := by decide +kernel
theorem dX6_rid_76 : decode cX6_rid 76 = .ok (.invokevirtual 160, 3) := by decide +kernel
theorem dX6_rid_79 : decode cX6_rid 79 = .ok (.aload_n 0, 1) := by decide +kernel
theorem dX6_rid_80 : decode cX6_rid 80 = .ok (.iload_n 1, 1) := by decide +kernel
theorem dX6_rid_81 : decode cX6_rid 81 = .ok (.invokevirtual 177, 3) := by decide +kernel
theorem dX6_rid_84 : decode cX6_rid 84 = .ok (.istore 7, 2) := by decide +kernel
theorem dX6_rid_86 : decode cX6_rid 86 = .ok (.iload 7, 2) := by decide +kernel
theorem dX6_rid_88 : decode cX6_rid 88 = .ok (.ifCond .lt 26, 3) := by decide +kernel
theorem dX6_rid_91 : decode cX6_rid 91 = .ok (.iload 5, 2) := by decide +kernel
theorem dX6_rid_93 : decode cX6_rid 93 = .ok (.ifCond .lt 13, 3) := by decide +kernel
theorem dX6_rid_96 : decode cX6_rid 96 = .ok (.iload 7, 2) := by decide +kernel
theorem dX6_rid_98 : decode cX6_rid 98 = .ok (.iload 5, 2) := by decide +kernel
theorem dX6_rid_100 : decode cX6_rid 100 = .ok (.if_icmp .lt 6, 3) := by decide +kernel
theorem dX6_rid_103 : decode cX6_rid 103 = .ok (.goto 11, 3) := by decide +kernel
theorem dX6_rid_106 : decode cX6_rid 106 = .ok (.iload 6, 2) := by decide +kernel
theorem dX6_rid_108 : decode cX6_rid 108 = .ok (.istore 4, 2) := by decide +kernel
theorem dX6_rid_110 : decode cX6_rid 110 = .ok (.iload 7, 2) := by decide +kernel
theorem dX6_rid_112 : decode cX6_rid 112 = .ok (.istore 5, 2) := by decide +kernel
theorem dX6_rid_114 : decode cX6_rid 114 = .ok (.iinc 6 1, 3) := by decide +kernel
theorem dX6_rid_117 : decode cX6_rid 117 = .ok (.goto (-51), 3) := by decide +kernel
theorem dX6_rid_120 : decode cX6_rid 120 = .ok (.iload_n 2, 1) := by decide +kernel
theorem dX6_rid_121 : decode cX6_rid 121 = .ok (.ifCond .ne 8, 3) := by decide +kernel
theorem dX6_rid_124 : decode cX6_rid 124 = .ok (.iload 4, 2) := by decide +kernel
theorem dX6_rid_126 : decode cX6_rid 126 = .ok (.goto 5, 3) := by decide +kernel
theorem dX6_rid_129 : decode cX6_rid 129 = .ok (.iload 5, 2) := by decide +kernel
theorem dX6_rid_131 : decode cX6_rid 131 = .ok (.ireturn, 1) := by decide +kernel
theorem dX6_instead_0 : decode cX6_instead 0 = .ok (.aload_n 0, 1) := by decide +kernel
theorem dX6_instead_1 : decode cX6_instead 1 = .ok (.iload_n 1, 1) := by decide +kernel
theorem dX6_instead_2 : decode cX6_instead 2 = .ok (.invokevirtual 144, 3) := by decide +kernel
theorem dX6_instead_5 : decode cX6_instead 5 = .ok (.ifCond .ne 7, 3) := by decide +kernel
theorem dX6_instead_8 : decode cX6_instead 8 = .ok (.iconst (-1), 1) := by decide +kernel
theorem dX6_instead_9 : decode cX6_instead 9 = .ok (.goto 18, 3) := by decide +kernel
theorem dX6_instead_12 : decode cX6_instead 12 = .ok (.aload_n 0, 1) := by decide +kernel
theorem dX6_instead_13 : decode cX6_instead 13 = .ok (.iload_n 1, 1) := by decide +kernel
theorem dX6_instead_14 : decode cX6_instead 14 = .ok (.iconst 3, 1) := by decide +kernel
theorem dX6_instead_15 : decode cX6_instead 15 = .ok (.invokevirtual 61, 3) := by decide +kernel
theorem dX6_instead_18 : decode cX6_instead 18 = .ok (.ifCond .ge 8, 3) := by decide +kernel
theorem dX6_instead_21 : decode cX6_instead 21 = .ok (.bipush (-3), 2) := by decide +kernel
theorem dX6_instead_23 : decode cX6_instead 23 = .ok (.goto 4, 3) := by decide +kernel
theorem dX6_instead_26 : decode cX6_instead 26 = .ok (.iconst 0, 1) := by decide +kernel
theorem dX6_instead_27 : decode cX6_instead 27 = .ok (.istore_n 2, 1) := by decide +kernel
theorem dX6_instead_28 : decode cX6_instead 28 = .ok (.iload_n 2, 1) := by decide +kernel
theorem dX6_instead_29 : decode cX6_instead 29 = .ok (.ifCond .eq 9, 3) := by decide +kernel
theorem dX6_instead_32 : decode cX6_instead 32 = .ok (.aload_n 0, 1) := by decide +kernel
theorem dX6_instead_33 : decode cX6_instead 33 = .ok (.iload_n 2, 1) := by decide +kernel
theorem dX6_instead_34 : decode cX6_instead 34 = .ok (.invokevirtual 120, 3) := by decide +kernel
theorem dX6_instead_37 : decode cX6_instead 37 = .ok (.ireturn, 1) := by decide +kernel
theorem dX6_instead_38 : decode cX6_instead 38 = .ok (.aload_n 0, 1) := by decide +kernel
theorem dX6_instead_39 : decode cX6_instead 39 = .ok (.invokevirtual 96, 3) := by decide +kernel
theorem dX6_instead_42 : decode cX6_instead 42 = .ok (.aload_n 0, 1) := by decide +kernel
theorem dX6_instead_43 : decode cX6_instead 43 = .ok (.iload_n 1, 1) := by decide +kernel
theorem dX6_instead_44 : decode cX6_instead 44 = .ok (.iconst 3, 1) := by decide +kernel
theorem dX6_instead_45 : decode cX6_instead 45 = .ok (.invokevirtual 61, 3) := by decide +kernel
theorem dX6_instead_48 : decode cX6_instead 48 = .ok (.istore_n 3, 1) := by decide +kernel
theorem dX6_instead_49 : decode cX6_instead 49 = .ok (.aload_n 0, 1) := by decide +kernel
theorem dX6_instead_50 : decode cX6_instead 50 = .ok (.iload_n 1, 1) := by decide +kernel
theorem dX6_instead_51 : decode cX6_instead 51 = .ok (.invokevirtual 177, 3) := by decide +kernel
theorem dX6_instead_54 : decode cX6_instead 54 = .ok (.istore 4, 2) := by decide +kernel
theorem dX6_instead_56 : decode cX6_instead 56 = .ok (.bipush (-9), 2) := by decide +kernel
theorem dX6_instead_58 : decode cX6_instead 58 = .ok (.istore 5, 2) := by decide +kernel
theorem dX6_instead_60 : decode cX6_instead 60 = .ok (.iconst 0, 1) := by decide +kernel
theorem dX6_instead_61 : decode cX6_instead 61 = .ok (.istore 6, 2) := by decide +kernel
theorem dX6_instead_63 : decode cX6_instead 63 = .ok (.iload 6, 2) := by decide +kernel
theorem dX6_instead_65 : decode cX6_instead 65 = .ok (.aload_n 0, 1) := by decide +kernel
theorem dX6_instead_66 : decode cX6_instead 66 = .ok (.getfield 13, 3) := by decide +kernel
theorem dX6_instead_69 : decode cX6_instead 69 = .ok (.iconst 2, 1) := by decide +kernel
theorem dX6_instead_70 : decode cX6_instead 70 = .ok (.iaload, 1) := by decide +kernel
theorem dX6_instead_71 : decode cX6_instead 71 = .ok (.if_icmp .ge 60, 3) := by decide +kernel
theorem dX6_instead_74 : decode cX6_instead 74 = .ok (.iload 6, 2) := by decide +kernel
theorem dX6_instead_76 : decode cX6_instead 76 = .ok (.iload_n 3, 1) := by decide +kernel
theorem dX6_instead_77 : decode cX6_instead 77 = .ok (.if_icmp .ne 6, 3) := by decide +kernel
theorem dX6_instead_80 : decode cX6_instead 80 = .ok (.goto 45, 3) := by decide +kernel
theorem dX6_instead_83 : decode cX6_instead 83 = .ok (.aload_n 0, 1) := by decide +kernel
theorem dX6_instead_84 : decode cX6_instead 84 = .ok (.iload_n 1, 1) := by decide +kernel
theorem dX6_instead_85 : decode cX6_instead 85 = .ok (.iload 6, 2) := by decide +kernel
theorem dX6_instead_87 : decode cX6_instead 87 = .ok (.invokevirtual 81, 3) := by decide +kernel
theorem dX6_instead_90 : decode cX6_instead 90 = .ok (.aload_n 0, 1) := by decide +kernel
theorem dX6_instead_91 : decode cX6_instead 91 = .ok (.iload_n 1, 1) := by decide +kernel
theorem dX6_instead_92 : decode cX6_instead 92 = .ok (.invokevirtual 177, 3) := by decide +kernel
theorem dX6_instead_95 : decode cX6_instead 95 = .ok (.istore 7, 2) := by decide +kernel
theorem dX6_instead_97 : decode cX6_instead 97 = .ok (.iload 7, 2) := by decide +kernel
theorem dX6_instead_99 : decode cX6_instead 99 = .ok (.ifCond .lt 26, 3) := by decide +kernel
theorem dX6_instead_102 : decode cX6_instead 102 = .ok (.iload 4, 2) := by decide +kernel
theorem dX6_instead_104 : decode cX6_instead 104 = .ok (.ifCond .lt 13, 3) := by decide +kernel
theorem dX6_instead_107 : decode cX6_instead 107 = .ok (.iload 7, 2) := by decide +kernel
theorem dX6_instead_109 : decode cX6_instead 109 = .ok (.iload 4, 2) := by decide +kernel
theorem dX6_instead_111 : decode cX6_instead 111 = .ok (.if_icmp .lt 6, 3) := by decide +kernel
theorem dX6_instead_114 : decode cX6_instead 114 = .ok (.goto 11, 3) := by decide +kernel
theorem dX6_instead_117 : decode cX6_instead 117 = .ok (.iload 6, 2) := by decide +kernel
theorem dX6_instead_119 : decode cX6_instead 119 = .ok (.istore 5, 2) := by decide +kernel
theorem dX6_instead_121 : decode cX6_instead 121 = .ok (.iload 7, 2) := by decide +kernel
theorem dX6_instead_123 : decode cX6_instead 123 = .ok (.istore 4, 2) := by decide +kernel
theorem dX6_instead_125 : decode cX6_instead 125 = .ok (.iinc 6 1, 3) := by decide +kernel
theorem dX6_instead_128 : decode cX6_instead 128 = .ok (.goto (-65), 3) := by decide +kernel
theorem dX6_instead_131 : decode cX6_instead 131 = .ok (.iload 5, 2) := by decide +kernel
theorem dX6_instead_133 : decode cX6_instead 133 = .ok (.ireturn, 1) := by decide +kernel
theorem dX6_shut_0 : decode cX6_shut 0 = .ok (.iload_n 1, 1) := by decide +kernel
theorem dX6_shut_1 : decode cX6_shut 1 = .ok (.iconst 0, 1) := by decide +kernel
theorem dX6_shut_2 : decode cX6_shut 2 = .ok (.bipush 60, 2) := by decide +kernel
theorem dX6_shut_4 : decode cX6_shut 4 = .ok (.invokestatic 112, 3) := by decide +kernel
theorem dX6_shut_7 : decode cX6_shut 7 = .ok (.istore_n 2, 1) := by decide +kernel
theorem dX6_shut_8 : decode cX6_shut 8 = .ok (.iload_n 2, 1) := by decide +kernel
theorem dX6_shut_9 : decode cX6_shut 9 = .ok (.ifCond .eq 9, 3) := by decide +kernel
theorem dX6_shut_12 : decode cX6_shut 12 = .ok (.aload_n 0, 1) := by decide +kernel
theorem dX6_shut_13 : decode cX6_shut 13 = .ok (.iload_n 2, 1) := by decide +kernel
theorem dX6_shut_14 : decode cX6_shut 14 = .ok (.invokevirtual 120, 3) := by decide +kernel
theorem dX6_shut_17 : decode cX6_shut 17 = .ok (.ireturn, 1) := by decide +kernel
theorem dX6_shut_18 : decode cX6_shut 18 = .ok (.aload_n 0, 1) := by decide +kernel
theorem dX6_shut_19 : decode cX6_shut 19 = .ok (.invokevirtual 96, 3) := by decide +kernel
theorem dX6_shut_22 : decode cX6_shut 22 = .ok (.aload_n 0, 1) := by decide +kernel
theorem dX6_shut_23 : decode cX6_shut 23 = .ok (.iconst (-1), 1) := by decide +kernel
theorem dX6_shut_24 : decode cX6_shut 24 = .ok (.iload_n 1, 1) := by decide +kernel
theorem dX6_shut_25 : decode cX6_shut 25 = .ok (.invokevirtual 167, 3) := by decide +kernel
theorem dX6_shut_28 : decode cX6_shut 28 = .ok (.istore_n 3, 1) := by decide +kernel
theorem dX6_shut_29 : decode cX6_shut 29 = .ok (.bipush (-9), 2) := by decide +kernel
theorem dX6_shut_31 : decode cX6_shut 31 = .ok (.istore 4, 2) := by decide +kernel
theorem dX6_shut_33 : decode cX6_shut 33 = .ok (.iconst 0, 1) := by decide +kernel
theorem dX6_shut_34 : decode cX6_shut 34 = .ok (.istore 5, 2) := by decide +kernel
theorem dX6_shut_36 : decode cX6_shut 36 = .ok (.iload 5, 2) := by decide +kernel
theorem dX6_shut_38 : decode cX6_shut 38 = .ok (.aload_n 0, 1) := by decide +kernel
theorem dX6_shut_39 : decode cX6_shut 39 = .ok (.getfield 13, 3) := by decide +kernel
theorem dX6_shut_42 : decode cX6_shut 42 = .ok (.iconst 0, 1) := by decide +kernel
theorem dX6_shut_43 : decode cX6_shut 43 = .ok (.iaload, 1) := by decide +kernel
theorem dX6_shut_44 : decode cX6_shut 44 = .ok (.if_icmp .ge 77, 3) := by decide +kernel
theorem dX6_shut_47 : decode cX6_shut 47 = .ok (.aload_n 0, 1) := by decide +kernel
theorem dX6_shut_48 : decode cX6_shut 48 = .ok (.getfield 13, 3) := by decide +kernel
theorem dX6_shut_51 : decode cX6_shut 51 = .ok (.iconst 1, 1) := by decide +kernel
theorem dX6_shut_52 : decode cX6_shut 52 = .ok (.iaload, 1) := by decide +kernel
theorem dX6_shut_53 : decode cX6_shut 53 = .ok (.iload 5, 2) := by decide +kernel
theorem dX6_shut_55 : decode cX6_shut 55 = .ok (.ishr, 1) := by decide +kernel
theorem dX6_shut_56 : decode cX6_shut 56 = .ok (.iconst 1, 1) := by decide +kernel
theorem dX6_shut_57 : decode cX6_shut 57 = .ok (.iand, 1) := by decide +kernel
theorem dX6_shut_58 : decode cX6_shut 58 = .ok (.ifCond .ne 6, 3) := by decide +kernel
theorem dX6_shut_61 : decode cX6_shut 61 = .ok (.goto 54, 3) := by decide +kernel
theorem dX6_shut_64 : decode cX6_shut 64 = .ok (.aload_n 0, 1) := by decide +kernel
theorem dX6_shut_65 : decode cX6_shut 65 = .ok (.getfield 13, 3) := by decide +kernel
theorem dX6_shut_68 : decode cX6_shut 68 = .ok (.iconst 1, 1) := by decide +kernel
theorem dX6_shut_69 : decode cX6_shut 69 = .ok (.dup2, 1) := by decide +kernel
theorem dX6_shut_70 : decode cX6_shut 70 = .ok (.iaload, 1) := by decide +kernel
theorem dX6_shut_71 : decode cX6_shut 71 = .ok (.iconst 1, 1) := by decide +kernel
theorem dX6_shut_72 : decode cX6_shut 72 = .ok (.iload 5, 2) := by decide +kernel
theorem dX6_shut_74 : decode cX6_shut 74 = .ok (.ishl, 1) := by decide +kernel
theorem dX6_shut_75 : decode cX6_shut 75 = .ok (.iconst (-1), 1) := by decide +kernel
theorem dX6_shut_76 : decode cX6_shut 76 = .ok (.ixor, 1) := by decide +kernel
theorem dX6_shut_77 : decode cX6_shut 77 = .ok (.iand, 1) := by decide +kernel
theorem dX6_shut_78 : decode cX6_shut 78 = .ok (.iastore, 1) := by decide +kernel
theorem dX6_shut_79 : decode cX6_shut 79 = .ok (.aload_n 0, 1) := by decide +kernel
theorem dX6_shut_80 : decode cX6_shut 80 = .ok (.iconst (-1), 1) := by decide +kernel
theorem dX6_shut_81 : decode cX6_shut 81 = .ok (.iload_n 1, 1) := by decide +kernel
theorem dX6_shut_82 : decode cX6_shut 82 = .ok (.invokevirtual 167, 3) := by decide +kernel
theorem dX6_shut_85 : decode cX6_shut 85 = .ok (.istore 6, 2) := by decide +kernel
theorem dX6_shut_87 : decode cX6_shut 87 = .ok (.iload 6, 2) := by decide +kernel
theorem dX6_shut_89 : decode cX6_shut 89 = .ok (.iload_n 3, 1) := by decide +kernel
theorem dX6_shut_90 : decode cX6_shut 90 = .ok (.if_icmp .ge 8, 3) := by decide +kernel
theorem dX6_shut_93 : decode cX6_shut 93 = .ok (.iload 5, 2) := by decide +kernel
theorem dX6_shut_95 : decode cX6_shut 95 = .ok (.goto 5, 3) := by decide +kernel
theorem dX6_shut_98 : decode cX6_shut 98 = .ok (.iload 4, 2) := by decide +kernel
theorem dX6_shut_100 : decode cX6_shut 100 = .ok (.istore 4, 2) := by decide +kernel
theorem dX6_shut_102 : decode cX6_shut 102 = .ok (.iload 6, 2) := by decide +kernel
theorem dX6_shut_104 : decode cX6_shut 104 = .ok (.iload_n 3, 1) := by decide +kernel
theorem dX6_shut_105 : decode cX6_shut 105 = .ok (.if_icmp .ge 8, 3) := by decide +kernel
theorem dX6_shut_108 : decode cX6_shut 108 = .ok (.iload 6, 2) := by decide +kernel
theorem dX6_shut_110 : decode cX6_shut 110 = .ok (.goto 4, 3) := by decide +kernel
theorem dX6_shut_113 : decode cX6_shut 113 = .ok (.iload_n 3, 1) := by decide +kernel
theorem dX6_shut_114 : decode cX6_shut 114 = .ok (.istore_n 3, 1) := by decide +kernel
theorem dX6_shut_115 : decode cX6_shut 115 = .ok (.iinc 5 1, 3) := by decide +kernel
theorem dX6_shut_118 : decode cX6_shut 118 = .ok (.goto (-82), 3) := by decide +kernel
theorem dX6_shut_121 : decode cX6_shut 121 = .ok (.iload 4, 2) := by decide +kernel
theorem dX6_shut_123 : decode cX6_shut 123 = .ok (.ireturn, 1) := by decide +kernel
theorem dX6_seats_0 : decode cX6_seats 0 = .ok (.iload_n 1, 1) := by decide +kernel
theorem dX6_seats_1 : decode cX6_seats 1 = .ok (.iconst 0, 1) := by decide +kernel
theorem dX6_seats_2 : decode cX6_seats 2 = .ok (.bipush 60, 2) := by decide +kernel
theorem dX6_seats_4 : decode cX6_seats 4 = .ok (.invokestatic 112, 3) := by decide +kernel
theorem dX6_seats_7 : decode cX6_seats 7 = .ok (.istore_n 2, 1) := by decide +kernel
theorem dX6_seats_8 : decode cX6_seats 8 = .ok (.iload_n 2, 1) := by decide +kernel
theorem dX6_seats_9 : decode cX6_seats 9 = .ok (.ifCond .eq 9, 3) := by decide +kernel
theorem dX6_seats_12 : decode cX6_seats 12 = .ok (.aload_n 0, 1) := by decide +kernel
theorem dX6_seats_13 : decode cX6_seats 13 = .ok (.iload_n 2, 1) := by decide +kernel
theorem dX6_seats_14 : decode cX6_seats 14 = .ok (.invokevirtual 120, 3) := by decide +kernel
theorem dX6_seats_17 : decode cX6_seats 17 = .ok (.ireturn, 1) := by decide +kernel
theorem dX6_seats_18 : decode cX6_seats 18 = .ok (.aload_n 0, 1) := by decide +kernel
theorem dX6_seats_19 : decode cX6_seats 19 = .ok (.invokevirtual 96, 3) := by decide +kernel
theorem dX6_seats_22 : decode cX6_seats 22 = .ok (.aload_n 0, 1) := by decide +kernel
theorem dX6_seats_23 : decode cX6_seats 23 = .ok (.iconst (-1), 1) := by decide +kernel
theorem dX6_seats_24 : decode cX6_seats 24 = .ok (.iload_n 1, 1) := by decide +kernel
theorem dX6_seats_25 : decode cX6_seats 25 = .ok (.invokevirtual 167, 3) := by decide +kernel
theorem dX6_seats_28 : decode cX6_seats 28 = .ok (.istore_n 3, 1) := by decide +kernel
theorem dX6_seats_29 : decode cX6_seats 29 = .ok (.bipush (-9), 2) := by decide +kernel
theorem dX6_seats_31 : decode cX6_seats 31 = .ok (.istore 4, 2) := by decide +kernel
theorem dX6_seats_33 : decode cX6_seats 33 = .ok (.iconst 0, 1) := by decide +kernel
theorem dX6_seats_34 : decode cX6_seats 34 = .ok (.istore 5, 2) := by decide +kernel
theorem dX6_seats_36 : decode cX6_seats 36 = .ok (.iload 5, 2) := by decide +kernel
theorem dX6_seats_38 : decode cX6_seats 38 = .ok (.aload_n 0, 1) := by decide +kernel
theorem dX6_seats_39 : decode cX6_seats 39 = .ok (.getfield 13, 3) := by decide +kernel
theorem dX6_seats_42 : decode cX6_seats 42 = .ok (.iconst 3, 1) := by decide +kernel
theorem dX6_seats_43 : decode cX6_seats 43 = .ok (.iaload, 1) := by decide +kernel
theorem dX6_seats_44 : decode cX6_seats 44 = .ok (.if_icmp .ge 106, 3) := by decide +kernel
theorem dX6_seats_47 : decode cX6_seats 47 = .ok (.iload 5, 2) := by decide +kernel
theorem dX6_seats_49 : decode cX6_seats 49 = .ok (.iconst 1, 1) := by decide +kernel
theorem dX6_seats_50 : decode cX6_seats 50 = .ok (.iadd, 1) := by decide +kernel
theorem dX6_seats_51 : decode cX6_seats 51 = .ok (.istore 6, 2) := by decide +kernel
theorem dX6_seats_53 : decode cX6_seats 53 = .ok (.iload 6, 2) := by decide +kernel
theorem dX6_seats_55 : decode cX6_seats 55 = .ok (.aload_n 0, 1) := by decide +kernel
theorem dX6_seats_56 : decode cX6_seats 56 = .ok (.getfield 13, 3) := by decide +kernel
theorem dX6_seats_59 : decode cX6_seats 59 = .ok (.iconst 3, 1) := by decide +kernel
theorem dX6_seats_60 : decode cX6_seats 60 = .ok (.iaload, 1) := by decide +kernel
theorem dX6_seats_61 : decode cX6_seats 61 = .ok (.if_icmp .ge 83, 3) := by decide +kernel
theorem dX6_seats_64 : decode cX6_seats 64 = .ok (.aload_n 0, 1) := by decide +kernel
theorem dX6_seats_65 : decode cX6_seats 65 = .ok (.iload 5, 2) := by decide +kernel
theorem dX6_seats_67 : decode cX6_seats 67 = .ok (.iconst 1, 1) := by decide +kernel
theorem dX6_seats_68 : decode cX6_seats 68 = .ok (.invokevirtual 61, 3) := by decide +kernel
theorem dX6_seats_71 : decode cX6_seats 71 = .ok (.istore 7, 2) := by decide +kernel
theorem dX6_seats_73 : decode cX6_seats 73 = .ok (.aload_n 0, 1) := by decide +kernel
theorem dX6_seats_74 : decode cX6_seats 74 = .ok (.iload 5, 2) := by decide +kernel
theorem dX6_seats_76 : decode cX6_seats 76 = .ok (.iconst 1, 1) := by decide +kernel
theorem dX6_seats_77 : decode cX6_seats 77 = .ok (.aload_n 0, 1) := by decide +kernel
theorem dX6_seats_78 : decode cX6_seats 78 = .ok (.iload 6, 2) := by decide +kernel
theorem dX6_seats_80 : decode cX6_seats 80 = .ok (.iconst 1, 1) := by decide +kernel
theorem dX6_seats_81 : decode cX6_seats 81 = .ok (.invokevirtual 61, 3) := by decide +kernel
theorem dX6_seats_84 : decode cX6_seats 84 = .ok (.invokevirtual 64, 3) := by decide +kernel
theorem dX6_seats_87 : decode cX6_seats 87 = .ok (.aload_n 0, 1) := by decide +kernel
theorem dX6_seats_88 : decode cX6_seats 88 = .ok (.iload 6, 2) := by decide +kernel
theorem dX6_seats_90 : decode cX6_seats 90 = .ok (.iconst 1, 1) := by decide +kernel
theorem dX6_seats_91 : decode cX6_seats 91 = .ok (.iload 7, 2) := by decide +kernel
theorem dX6_seats_93 : decode cX6_seats 93 = .ok (.invokevirtual 64, 3) := by decide +kernel
theorem dX6_seats_96 : decode cX6_seats 96 = .ok (.aload_n 0, 1) := by decide +kernel
theorem dX6_seats_97 : decode cX6_seats 97 = .ok (.iconst (-1), 1) := by decide +kernel
theorem dX6_seats_98 : decode cX6_seats 98 = .ok (.iload_n 1, 1) := by decide +kernel
theorem dX6_seats_99 : decode cX6_seats 99 = .ok (.invokevirtual 167, 3) := by decide +kernel
theorem dX6_seats_102 : decode cX6_seats 102 = .ok (.istore 8, 2) := by decide +kernel
theorem dX6_seats_104 : decode cX6_seats 104 = .ok (.iload 8, 2) := by decide +kernel
theorem dX6_seats_106 : decode cX6_seats 106 = .ok (.iload_n 3, 1) := by decide +kernel
theorem dX6_seats_107 : decode cX6_seats 107 = .ok (.if_icmp .ge 14, 3) := by decide +kernel
theorem dX6_seats_110 : decode cX6_seats 110 = .ok (.bipush 10, 2) := by decide +kernel
theorem dX6_seats_112 : decode cX6_seats 112 = .ok (.iload 5, 2) := by decide +kernel
theorem dX6_seats_114 : decode cX6_seats 114 = .ok (.imul, 1) := by decide +kernel
theorem dX6_seats_115 : decode cX6_seats 115 = .ok (.iload 6, 2) := by decide +kernel
theorem dX6_seats_117 : decode cX6_seats 117 = .ok (.iadd, 1) := by decide +kernel
theorem dX6_seats_118 : decode cX6_seats 118 = .ok (.goto 5, 3) := by decide +kernel
theorem dX6_seats_121 : decode cX6_seats 121 = .ok (.iload 4, 2) := by decide +kernel
theorem dX6_seats_123 : decode cX6_seats 123 = .ok (.istore 4, 2) := by decide +kernel
theorem dX6_seats_125 : decode cX6_seats 125 = .ok (.iload 8, 2) := by decide +kernel
theorem dX6_seats_127 : decode cX6_seats 127 = .ok (.iload_n 3, 1) := by decide +kernel
theorem dX6_seats_128 : decode cX6_seats 128 = .ok (.if_icmp .ge 8, 3) := by decide +kernel
theorem dX6_seats_131 : decode cX6_seats 131 = .ok (.iload 8, 2) := by decide +kernel
theorem dX6_seats_133 : decode cX6_seats 133 = .ok (.goto 4, 3) := by decide +kernel
theorem dX6_seats_136 : decode cX6_seats 136 = .ok (.iload_n 3, 1) := by decide +kernel
theorem dX6_seats_137 : decode cX6_seats 137 = .ok (.istore_n 3, 1) := by decide +kernel
theorem dX6_seats_138 : decode cX6_seats 138 = .ok (.iinc 6 1, 3) := by decide +kernel
theorem dX6_seats_141 : decode cX6_seats 141 = .ok (.goto (-88), 3) := by decide +kernel
theorem dX6_seats_144 : decode cX6_seats 144 = .ok (.iinc 5 1, 3) := by decide +kernel
theorem dX6_seats_147 : decode cX6_seats 147 = .ok (.goto (-111), 3) := by decide +kernel
theorem dX6_seats_150 : decode cX6_seats 150 = .ok (.iload 4, 2) := by decide +kernel
theorem dX6_seats_152 : decode cX6_seats 152 = .ok (.ireturn, 1) := by decide +kernel
theorem dX6_write_0 : decode cX6_write 0 = .ok (.iload_n 1, 1) := by decide +kernel
theorem dX6_write_1 : decode cX6_write 1 = .ok (.iconst 1, 1) := by decide +kernel
theorem dX6_write_2 : decode cX6_write 2 = .ok (.if_icmp .lt 7, 3) := by decide +kernel
theorem dX6_write_5 : decode cX6_write 5 = .ok (.iload_n 2, 1) := by decide +kernel
theorem dX6_write_6 : decode cX6_write 6 = .ok (.ifCond .ge 8, 3) := by decide +kernel
theorem dX6_write_9 : decode cX6_write 9 = .ok (.bipush (-4), 2) := by decide +kernel
theorem dX6_write_11 : decode cX6_write 11 = .ok (.goto 58, 3) := by decide +kernel
theorem dX6_write_14 : decode cX6_write 14 = .ok (.iload_n 1, 1) := by decide +kernel
theorem dX6_write_15 : decode cX6_write 15 = .ok (.bipush 9, 2) := by decide +kernel
theorem dX6_write_17 : decode cX6_write 17 = .ok (.if_icmp .gt 19, 3) := by decide +kernel
theorem dX6_write_20 : decode cX6_write 20 = .ok (.iload_n 2, 1) := by decide +kernel
theorem dX6_write_21 : decode cX6_write 21 = .ok (.bipush 60, 2) := by decide +kernel
theorem dX6_write_23 : decode cX6_write 23 = .ok (.if_icmp .gt 13, 3) := by decide +kernel
theorem dX6_write_26 : decode cX6_write 26 = .ok (.aload_n 0, 1) := by decide +kernel
theorem dX6_write_27 : decode cX6_write 27 = .ok (.getfield 13, 3) := by decide +kernel
theorem dX6_write_30 : decode cX6_write 30 = .ok (.iconst 2, 1) := by decide +kernel
theorem dX6_write_31 : decode cX6_write 31 = .ok (.iaload, 1) := by decide +kernel
theorem dX6_write_32 : decode cX6_write 32 = .ok (.iconst 5, 1) := by decide +kernel
theorem dX6_write_33 : decode cX6_write 33 = .ok (.if_icmp .ne 8, 3) := by decide +kernel
theorem dX6_write_36 : decode cX6_write 36 = .ok (.bipush (-6), 2) := by decide +kernel
theorem dX6_write_38 : decode cX6_write 38 = .ok (.goto 31, 3) := by decide +kernel
theorem dX6_write_41 : decode cX6_write 41 = .ok (.iload_n 3, 1) := by decide +kernel
theorem dX6_write_42 : decode cX6_write 42 = .ok (.iconst 2, 1) := by decide +kernel
theorem dX6_write_43 : decode cX6_write 43 = .ok (.invokestatic 53, 3) := by decide +kernel
theorem dX6_write_46 : decode cX6_write 46 = .ok (.ifCond .ne 8, 3) := by decide +kernel
theorem dX6_write_49 : decode cX6_write 49 = .ok (.bipush (-2), 2) := by decide +kernel
theorem dX6_write_51 : decode cX6_write 51 = .ok (.goto 18, 3) := by decide +kernel
theorem dX6_write_54 : decode cX6_write 54 = .ok (.aload_n 0, 1) := by decide +kernel
theorem dX6_write_55 : decode cX6_write 55 = .ok (.getfield 13, 3) := by decide +kernel
theorem dX6_write_58 : decode cX6_write 58 = .ok (.iconst 3, 1) := by decide +kernel
theorem dX6_write_59 : decode cX6_write 59 = .ok (.iaload, 1) := by decide +kernel
theorem dX6_write_60 : decode cX6_write 60 = .ok (.ifCond .ne 8, 3) := by decide +kernel
theorem dX6_write_63 : decode cX6_write 63 = .ok (.bipush (-3), 2) := by decide +kernel
theorem dX6_write_65 : decode cX6_write 65 = .ok (.goto 4, 3) := by decide +kernel
theorem dX6_write_68 : decode cX6_write 68 = .ok (.iconst 0, 1) := by decide +kernel
theorem dX6_write_69 : decode cX6_write 69 = .ok (.istore 4, 2) := by decide +kernel
theorem dX6_write_71 : decode cX6_write 71 = .ok (.iload 4, 2) := by decide +kernel
theorem dX6_write_73 : decode cX6_write 73 = .ok (.ifCond .eq 10, 3) := by decide +kernel
theorem dX6_write_76 : decode cX6_write 76 = .ok (.aload_n 0, 1) := by decide +kernel
theorem dX6_write_77 : decode cX6_write 77 = .ok (.iload 4, 2) := by decide +kernel
theorem dX6_write_79 : decode cX6_write 79 = .ok (.invokevirtual 120, 3) := by decide +kernel
theorem dX6_write_82 : decode cX6_write 82 = .ok (.ireturn, 1) := by decide +kernel
theorem dX6_write_83 : decode cX6_write 83 = .ok (.aload_n 0, 1) := by decide +kernel
theorem dX6_write_84 : decode cX6_write 84 = .ok (.invokevirtual 96, 3) := by decide +kernel
theorem dX6_write_87 : decode cX6_write 87 = .ok (.bipush (-9), 2) := by decide +kernel
theorem dX6_write_89 : decode cX6_write 89 = .ok (.istore 5, 2) := by decide +kernel
theorem dX6_write_91 : decode cX6_write 91 = .ok (.bipush (-9), 2) := by decide +kernel
theorem dX6_write_93 : decode cX6_write 93 = .ok (.istore 6, 2) := by decide +kernel
theorem dX6_write_95 : decode cX6_write 95 = .ok (.iconst 0, 1) := by decide +kernel
theorem dX6_write_96 : decode cX6_write 96 = .ok (.istore 7, 2) := by decide +kernel
theorem dX6_write_98 : decode cX6_write 98 = .ok (.iload 7, 2) := by decide +kernel
theorem dX6_write_100 : decode cX6_write 100 = .ok (.bipush 60, 2) := by decide +kernel
theorem dX6_write_102 : decode cX6_write 102 = .ok (.if_icmp .ge 126, 3) := by decide +kernel
theorem dX6_write_105 : decode cX6_write 105 = .ok (.aload_n 0, 1) := by decide +kernel
theorem dX6_write_106 : decode cX6_write 106 = .ok (.getfield 13, 3) := by decide +kernel
theorem dX6_write_109 : decode cX6_write 109 = .ok (.iconst 2, 1) := by decide +kernel
theorem dX6_write_110 : decode cX6_write 110 = .ok (.iaload, 1) := by decide +kernel
theorem dX6_write_111 : decode cX6_write 111 = .ok (.istore 8, 2) := by decide +kernel
theorem dX6_write_113 : decode cX6_write 113 = .ok (.aload_n 0, 1) := by decide +kernel
theorem dX6_write_114 : decode cX6_write 114 = .ok (.getfield 13, 3) := by decide +kernel
theorem dX6_write_117 : decode cX6_write 117 = .ok (.bipush 22, 2) := by decide +kernel
theorem dX6_write_119 : decode cX6_write 119 = .ok (.iconst 3, 1) := by decide +kernel
theorem dX6_write_120 : decode cX6_write 120 = .ok (.iload 8, 2) := by decide +kernel
theorem dX6_write_122 : decode cX6_write 122 = .ok (.imul, 1) := by decide +kernel
theorem dX6_write_123 : decode cX6_write 123 = .ok (.iadd, 1) := by decide +kernel
theorem dX6_write_124 : decode cX6_write 124 = .ok (.iload 7, 2) := by decide +kernel
theorem dX6_write_126 : decode cX6_write 126 = .ok (.bipush 10, 2) := by decide +kernel
theorem dX6_write_128 : decode cX6_write 128 = .ok (.idiv, 1) := by decide +kernel
theorem dX6_write_129 : decode cX6_write 129 = .ok (.iastore, 1) := by decide +kernel
theorem dX6_write_130 : decode cX6_write 130 = .ok (.aload_n 0, 1) := by decide +kernel
theorem dX6_write_131 : decode cX6_write 131 = .ok (.getfield 13, 3) := by decide +kernel
theorem dX6_write_134 : decode cX6_write 134 = .ok (.bipush 22, 2) := by decide +kernel
theorem dX6_write_136 : decode cX6_write 136 = .ok (.iconst 3, 1) := by decide +kernel
theorem dX6_write_137 : decode cX6_write 137 = .ok (.iload 8, 2) := by decide +kernel
theorem dX6_write_139 : decode cX6_write 139 = .ok (.imul, 1) := by decide +kernel
theorem dX6_write_140 : decode cX6_write 140 = .ok (.iadd, 1) := by decide +kernel
theorem dX6_write_141 : decode cX6_write 141 = .ok (.iconst 1, 1) := by decide +kernel
theorem dX6_write_142 : decode cX6_write 142 = .ok (.iadd, 1) := by decide +kernel
theorem dX6_write_143 : decode cX6_write 143 = .ok (.iload 7, 2) := by decide +kernel
theorem dX6_write_145 : decode cX6_write 145 = .ok (.bipush 10, 2) := by decide +kernel
theorem dX6_write_147 : decode cX6_write 147 = .ok (.irem, 1) := by decide +kernel
theorem dX6_write_148 : decode cX6_write 148 = .ok (.iastore, 1) := by decide +kernel
theorem dX6_write_149 : decode cX6_write 149 = .ok (.aload_n 0, 1) := by decide +kernel
theorem dX6_write_150 : decode cX6_write 150 = .ok (.getfield 13, 3) := by decide +kernel
theorem dX6_write_153 : decode cX6_write 153 = .ok (.bipush 22, 2) := by decide +kernel
theorem dX6_write_155 : decode cX6_write 155 = .ok (.iconst 3, 1) := by decide +kernel
theorem dX6_write_156 : decode cX6_write 156 = .ok (.iload 8, 2) := by decide +kernel
theorem dX6_write_158 : decode cX6_write 158 = .ok (.imul, 1) := by decide +kernel
theorem dX6_write_159 : decode cX6_write 159 = .ok (.iadd, 1) := by decide +kernel
theorem dX6_write_160 : decode cX6_write 160 = .ok (.iconst 2, 1) := by decide +kernel
theorem dX6_write_161 : decode cX6_write 161 = .ok (.iadd, 1) := by decide +kernel
theorem dX6_write_162 : decode cX6_write 162 = .ok (.iload_n 1, 1) := by decide +kernel
theorem dX6_write_163 : decode cX6_write 163 = .ok (.iastore, 1) := by decide +kernel
theorem dX6_write_164 : decode cX6_write 164 = .ok (.aload_n 0, 1) := by decide +kernel
theorem dX6_write_165 : decode cX6_write 165 = .ok (.getfield 13, 3) := by decide +kernel
theorem dX6_write_168 : decode cX6_write 168 = .ok (.iconst 2, 1) := by decide +kernel
theorem dX6_write_169 : decode cX6_write 169 = .ok (.dup2, 1) := by decide +kernel
theorem dX6_write_170 : decode cX6_write 170 = .ok (.iaload, 1) := by decide +kernel
theorem dX6_write_171 : decode cX6_write 171 = .ok (.iconst 1, 1) := by decide +kernel
theorem dX6_write_172 : decode cX6_write 172 = .ok (.iadd, 1) := by decide +kernel
theorem dX6_write_173 : decode cX6_write 173 = .ok (.iastore, 1) := by decide +kernel
theorem dX6_write_174 : decode cX6_write 174 = .ok (.aload_n 0, 1) := by decide +kernel
theorem dX6_write_175 : decode cX6_write 175 = .ok (.iconst 0, 1) := by decide +kernel
theorem dX6_write_176 : decode cX6_write 176 = .ok (.iload 8, 2) := by decide +kernel
theorem dX6_write_178 : decode cX6_write 178 = .ok (.invokevirtual 81, 3) := by decide +kernel
theorem dX6_write_181 : decode cX6_write 181 = .ok (.aload_n 0, 1) := by decide +kernel
theorem dX6_write_182 : decode cX6_write 182 = .ok (.iload 8, 2) := by decide +kernel
theorem dX6_write_184 : decode cX6_write 184 = .ok (.iload_n 2, 1) := by decide +kernel
theorem dX6_write_185 : decode cX6_write 185 = .ok (.invokevirtual 167, 3) := by decide +kernel
theorem dX6_write_188 : decode cX6_write 188 = .ok (.istore 9, 2) := by decide +kernel
theorem dX6_write_190 : decode cX6_write 190 = .ok (.iload 9, 2) := by decide +kernel
theorem dX6_write_192 : decode cX6_write 192 = .ok (.iload 6, 2) := by decide +kernel
theorem dX6_write_194 : decode cX6_write 194 = .ok (.if_icmp .le 8, 3) := by decide +kernel
theorem dX6_write_197 : decode cX6_write 197 = .ok (.iload 7, 2) := by decide +kernel
theorem dX6_write_199 : decode cX6_write 199 = .ok (.goto 5, 3) := by decide +kernel
theorem dX6_write_202 : decode cX6_write 202 = .ok (.iload 5, 2) := by decide +kernel
theorem dX6_write_204 : decode cX6_write 204 = .ok (.istore 5, 2) := by decide +kernel
theorem dX6_write_206 : decode cX6_write 206 = .ok (.iload 9, 2) := by decide +kernel
theorem dX6_write_208 : decode cX6_write 208 = .ok (.iload 6, 2) := by decide +kernel
theorem dX6_write_210 : decode cX6_write 210 = .ok (.if_icmp .le 8, 3) := by decide +kernel
theorem dX6_write_213 : decode cX6_write 213 = .ok (.iload 9, 2) := by decide +kernel
theorem dX6_write_215 : decode cX6_write 215 = .ok (.goto 5, 3) := by decide +kernel
theorem dX6_write_218 : decode cX6_write 218 = .ok (.iload 6, 2) := by decide +kernel
theorem dX6_write_220 : decode cX6_write 220 = .ok (.istore 6, 2) := by decide +kernel
theorem dX6_write_222 : decode cX6_write 222 = .ok (.iinc 7 1, 3) := by decide +kernel
theorem dX6_write_225 : decode cX6_write 225 = .ok (.goto (-127), 3) := by decide +kernel
theorem dX6_write_228 : decode cX6_write 228 = .ok (.iload_n 3, 1) := by decide +kernel
theorem dX6_write_229 : decode cX6_write 229 = .ok (.ifCond .ne 8, 3) := by decide +kernel
theorem dX6_write_232 : decode cX6_write 232 = .ok (.iload 5, 2) := by decide +kernel
theorem dX6_write_234 : decode cX6_write 234 = .ok (.goto 5, 3) := by decide +kernel
theorem dX6_write_237 : decode cX6_write 237 = .ok (.iload 6, 2) := by decide +kernel
theorem dX6_write_239 : decode cX6_write 239 = .ok (.ireturn, 1) := by decide +kernel
theorem dX6_row_0 : decode cX6_row 0 = .ok (.iload_n 1, 1) := by decide +kernel
theorem dX6_row_1 : decode cX6_row 1 = .ok (.iconst 0, 1) := by decide +kernel
theorem dX6_row_2 : decode cX6_row 2 = .ok (.bipush 9, 2) := by decide +kernel
theorem dX6_row_4 : decode cX6_row 4 = .ok (.invokestatic 112, 3) := by decide +kernel
theorem dX6_row_7 : decode cX6_row 7 = .ok (.istore_n 2, 1) := by decide +kernel
theorem dX6_row_8 : decode cX6_row 8 = .ok (.iload_n 2, 1) := by decide +kernel
theorem dX6_row_9 : decode cX6_row 9 = .ok (.ifCond .ne 15, 3) := by decide +kernel
theorem dX6_row_12 : decode cX6_row 12 = .ok (.aload_n 0, 1) := by decide +kernel
theorem dX6_row_13 : decode cX6_row 13 = .ok (.getfield 180, 3) := by decide +kernel
theorem dX6_row_16 : decode cX6_row 16 = .ok (.bipush 6, 2) := by decide +kernel
theorem dX6_row_18 : decode cX6_row 18 = .ok (.if_icmp .ne 6, 3) := by decide +kernel
theorem dX6_row_21 : decode cX6_row 21 = .ok (.bipush (-6), 2) := by decide +kernel
theorem dX6_row_23 : decode cX6_row 23 = .ok (.istore_n 2, 1) := by decide +kernel
theorem dX6_row_24 : decode cX6_row 24 = .ok (.iload_n 2, 1) := by decide +kernel
theorem dX6_row_25 : decode cX6_row 25 = .ok (.ifCond .eq 9, 3) := by decide +kernel
theorem dX6_row_28 : decode cX6_row 28 = .ok (.aload_n 0, 1) := by decide +kernel
theorem dX6_row_29 : decode cX6_row 29 = .ok (.iload_n 2, 1) := by decide +kernel
theorem dX6_row_30 : decode cX6_row 30 = .ok (.invokevirtual 120, 3) := by decide +kernel
theorem dX6_row_33 : decode cX6_row 33 = .ok (.ireturn, 1) := by decide +kernel
theorem dX6_row_34 : decode cX6_row 34 = .ok (.aload_n 0, 1) := by decide +kernel
theorem dX6_row_35 : decode cX6_row 35 = .ok (.getfield 46, 3) := by decide +kernel
theorem dX6_row_38 : decode cX6_row 38 = .ok (.aload_n 0, 1) := by decide +kernel
theorem dX6_row_39 : decode cX6_row 39 = .ok (.getfield 180, 3) := by decide +kernel
theorem dX6_row_42 : decode cX6_row 42 = .ok (.iload_n 1, 1) := by decide +kernel
theorem dX6_row_43 : decode cX6_row 43 = .ok (.iastore, 1) := by decide +kernel
theorem dX6_row_44 : decode cX6_row 44 = .ok (.aload_n 0, 1) := by decide +kernel
theorem dX6_row_45 : decode cX6_row 45 = .ok (.dup, 1) := by decide +kernel
theorem dX6_row_46 : decode cX6_row 46 = .ok (.getfield 180, 3) := by decide +kernel
theorem dX6_row_49 : decode cX6_row 49 = .ok (.iconst 1, 1) := by decide +kernel
theorem dX6_row_50 : decode cX6_row 50 = .ok (.iadd, 1) := by decide +kernel
theorem dX6_row_51 : decode cX6_row 51 = .ok (.putfield 180, 3) := by decide +kernel
theorem dX6_row_54 : decode cX6_row 54 = .ok (.aload_n 0, 1) := by decide +kernel
theorem dX6_row_55 : decode cX6_row 55 = .ok (.getfield 180, 3) := by decide +kernel
theorem dX6_row_58 : decode cX6_row 58 = .ok (.ireturn, 1) := by decide +kernel
theorem dX6_isTold_0 : decode cX6_isTold 0 = .ok (.aload_n 0, 1) := by decide +kernel
theorem dX6_isTold_1 : decode cX6_isTold 1 = .ok (.getfield 46, 3) := by decide +kernel
theorem dX6_isTold_4 : decode cX6_isTold 4 = .ok (.iload_n 1, 1) := by decide +kernel
theorem dX6_isTold_5 : decode cX6_isTold 5 = .ok (.iaload, 1) := by decide +kernel
theorem dX6_isTold_6 : decode cX6_isTold 6 = .ok (.aload_n 0, 1) := by decide +kernel
theorem dX6_isTold_7 : decode cX6_isTold 7 = .ok (.iload_n 1, 1) := by decide +kernel
theorem dX6_isTold_8 : decode cX6_isTold 8 = .ok (.iconst 3, 1) := by decide +kernel
theorem dX6_isTold_9 : decode cX6_isTold 9 = .ok (.invokevirtual 61, 3) := by decide +kernel
theorem dX6_isTold_12 : decode cX6_isTold 12 = .ok (.ifCond .ge 8, 3) := by decide +kernel
theorem dX6_isTold_15 : decode cX6_isTold 15 = .ok (.bipush 9, 2) := by decide +kernel
theorem dX6_isTold_17 : decode cX6_isTold 17 = .ok (.goto 9, 3) := by decide +kernel
theorem dX6_isTold_20 : decode cX6_isTold 20 = .ok (.aload_n 0, 1) := by decide +kernel
theorem dX6_isTold_21 : decode cX6_isTold 21 = .ok (.iload_n 1, 1) := by decide +kernel
theorem dX6_isTold_22 : decode cX6_isTold 22 = .ok (.iconst 3, 1) := by decide +kernel
theorem dX6_isTold_23 : decode cX6_isTold 23 = .ok (.invokevirtual 61, 3) := by decide +kernel
theorem dX6_isTold_26 : decode cX6_isTold 26 = .ok (.if_icmp .ne 7, 3) := by decide +kernel
theorem dX6_isTold_29 : decode cX6_isTold 29 = .ok (.iconst 1, 1) := by decide +kernel
theorem dX6_isTold_30 : decode cX6_isTold 30 = .ok (.goto 4, 3) := by decide +kernel
theorem dX6_isTold_33 : decode cX6_isTold 33 = .ok (.iconst 0, 1) := by decide +kernel
theorem dX6_isTold_34 : decode cX6_isTold 34 = .ok (.ireturn, 1) := by decide +kernel
theorem dX6_isAllTold_0 : decode cX6_isAllTold 0 = .ok (.iconst 0, 1) := by decide +kernel
theorem dX6_isAllTold_1 : decode cX6_isAllTold 1 = .ok (.istore_n 1, 1) := by decide +kernel
theorem dX6_isAllTold_2 : decode cX6_isAllTold 2 = .ok (.iload_n 1, 1) := by decide +kernel
theorem dX6_isAllTold_3 : decode cX6_isAllTold 3 = .ok (.aload_n 0, 1) := by decide +kernel
theorem dX6_isAllTold_4 : decode cX6_isAllTold 4 = .ok (.getfield 13, 3) := by decide +kernel
theorem dX6_isAllTold_7 : decode cX6_isAllTold 7 = .ok (.iconst 3, 1) := by decide +kernel
theorem dX6_isAllTold_8 : decode cX6_isAllTold 8 = .ok (.iaload, 1) := by decide +kernel
theorem dX6_isAllTold_9 : decode cX6_isAllTold 9 = .ok (.if_icmp .ge 19, 3) := by decide +kernel
theorem dX6_isAllTold_12 : decode cX6_isAllTold 12 = .ok (.aload_n 0, 1) := by decide +kernel
theorem dX6_isAllTold_13 : decode cX6_isAllTold 13 = .ok (.iload_n 1, 1) := by decide +kernel
theorem dX6_isAllTold_14 : decode cX6_isAllTold 14 = .ok (.invokevirtual 183, 3) := by decide +kernel
theorem dX6_isAllTold_17 : decode cX6_isAllTold 17 = .ok (.ifCond .ne 5, 3) := by decide +kernel
theorem dX6_isAllTold_20 : decode cX6_isAllTold 20 = .ok (.iconst 0, 1) := by decide +kernel
theorem dX6_isAllTold_21 : decode cX6_isAllTold 21 = .ok (.ireturn, 1) := by decide +kernel
theorem dX6_isAllTold_22 : decode cX6_isAllTold 22 = .ok (.iinc 1 1, 3) := by decide +kernel
theorem dX6_isAllTold_25 : decode cX6_isAllTold 25 = .ok (.goto (-23), 3) := by decide +kernel
theorem dX6_isAllTold_28 : decode cX6_isAllTold 28 = .ok (.iconst 1, 1) := by decide +kernel
theorem dX6_isAllTold_29 : decode cX6_isAllTold 29 = .ok (.ireturn, 1) := by decide +kernel
theorem dX6_otherwise_0 : decode cX6_otherwise 0 = .ok (.iload_n 1, 1) := by decide +kernel
theorem dX6_otherwise_1 : decode cX6_otherwise 1 = .ok (.iconst 0, 1) := by decide +kernel
theorem dX6_otherwise_2 : decode cX6_otherwise 2 = .ok (.bipush 60, 2) := by decide +kernel
theorem dX6_otherwise_4 : decode cX6_otherwise 4 = .ok (.invokestatic 112, 3) := by decide +kernel
theorem dX6_otherwise_7 : decode cX6_otherwise 7 = .ok (.istore_n 3, 1) := by decide +kernel
theorem dX6_otherwise_8 : decode cX6_otherwise 8 = .ok (.iload_n 3, 1) := by decide +kernel
theorem dX6_otherwise_9 : decode cX6_otherwise 9 = .ok (.ifCond .ne 36, 3) := by decide +kernel
theorem dX6_otherwise_12 : decode cX6_otherwise 12 = .ok (.iload_n 2, 1) := by decide +kernel
theorem dX6_otherwise_13 : decode cX6_otherwise 13 = .ok (.iconst 2, 1) := by decide +kernel
theorem dX6_otherwise_14 : decode cX6_otherwise 14 = .ok (.invokestatic 53, 3) := by decide +kernel
theorem dX6_otherwise_17 : decode cX6_otherwise 17 = .ok (.ifCond .ne 8, 3) := by decide +kernel
theorem dX6_otherwise_20 : decode cX6_otherwise 20 = .ok (.bipush (-2), 2) := by decide +kernel
theorem dX6_otherwise_22 : decode cX6_otherwise 22 = .ok (.goto 22, 3) := by decide +kernel
theorem dX6_otherwise_25 : decode cX6_otherwise 25 = .ok (.aload_n 0, 1) := by decide +kernel
theorem dX6_otherwise_26 : decode cX6_otherwise 26 = .ok (.getfield 180, 3) := by decide +kernel
theorem dX6_otherwise_29 : decode cX6_otherwise 29 = .ok (.aload_n 0, 1) := by decide +kernel
theorem dX6_otherwise_30 : decode cX6_otherwise 30 = .ok (.getfield 13, 3) := by decide +kernel
theorem dX6_otherwise_33 : decode cX6_otherwise 33 = .ok (.iconst 3, 1) := by decide +kernel
theorem dX6_otherwise_34 : decode cX6_otherwise 34 = .ok (.iaload, 1) := by decide +kernel
theorem dX6_otherwise_35 : decode cX6_otherwise 35 = .ok (.if_icmp .eq 8, 3) := by decide +kernel
theorem dX6_otherwise_38 : decode cX6_otherwise 38 = .ok (.bipush (-3), 2) := by decide +kernel
theorem dX6_otherwise_40 : decode cX6_otherwise 40 = .ok (.goto 4, 3) := by decide +kernel
theorem dX6_otherwise_43 : decode cX6_otherwise 43 = .ok (.iconst 0, 1) := by decide +kernel
theorem dX6_otherwise_44 : decode cX6_otherwise 44 = .ok (.istore_n 3, 1) := by decide +kernel
theorem dX6_otherwise_45 : decode cX6_otherwise 45 = .ok (.iload_n 3, 1) := by decide +kernel
theorem dX6_otherwise_46 : decode cX6_otherwise 46 = .ok (.ifCond .eq 9, 3) := by decide +kernel
theorem dX6_otherwise_49 : decode cX6_otherwise 49 = .ok (.aload_n 0, 1) := by decide +kernel
theorem dX6_otherwise_50 : decode cX6_otherwise 50 = .ok (.iload_n 3, 1) := by decide +kernel
theorem dX6_otherwise_51 : decode cX6_otherwise 51 = .ok (.invokevirtual 120, 3) := by decide +kernel
theorem dX6_otherwise_54 : decode cX6_otherwise 54 = .ok (.ireturn, 1) := by decide +kernel
theorem dX6_otherwise_55 : decode cX6_otherwise 55 = .ok (.aload_n 0, 1) := by decide +kernel
theorem dX6_otherwise_56 : decode cX6_otherwise 56 = .ok (.invokevirtual 96, 3) := by decide +kernel
theorem dX6_otherwise_59 : decode cX6_otherwise 59 = .ok (.iconst 0, 1) := by decide +kernel
theorem dX6_otherwise_60 : decode cX6_otherwise 60 = .ok (.istore 4, 2) := by decide +kernel
theorem dX6_otherwise_62 : decode cX6_otherwise 62 = .ok (.bipush (-9), 2) := by decide +kernel
theorem dX6_otherwise_64 : decode cX6_otherwise 64 = .ok (.istore 5, 2) := by decide +kernel
theorem dX6_otherwise_66 : decode cX6_otherwise 66 = .ok (.iconst 0, 1) := by decide +kernel
theorem dX6_otherwise_67 : decode cX6_otherwise 67 = .ok (.istore 6, 2) := by decide +kernel
theorem dX6_otherwise_69 : decode cX6_otherwise 69 = .ok (.iload 6, 2) := by decide +kernel
theorem dX6_otherwise_71 : decode cX6_otherwise 71 = .ok (.bipush 10, 2) := by decide +kernel
theorem dX6_otherwise_73 : decode cX6_otherwise 73 = .ok (.aload_n 0, 1) := by decide +kernel
theorem dX6_otherwise_74 : decode cX6_otherwise 74 = .ok (.getfield 13, 3) := by decide +kernel
theorem dX6_otherwise_77 : decode cX6_otherwise 77 = .ok (.iconst 3, 1) := by decide +kernel
theorem dX6_otherwise_78 : decode cX6_otherwise 78 = .ok (.iaload, 1) := by decide +kernel
theorem dX6_otherwise_79 : decode cX6_otherwise 79 = .ok (.imul, 1) := by decide +kernel
theorem dX6_otherwise_80 : decode cX6_otherwise 80 = .ok (.if_icmp .ge 121, 3) := by decide +kernel
theorem dX6_otherwise_83 : decode cX6_otherwise 83 = .ok (.iload 6, 2) := by decide +kernel
theorem dX6_otherwise_85 : decode cX6_otherwise 85 = .ok (.bipush 10, 2) := by decide +kernel
theorem dX6_otherwise_87 : decode cX6_otherwise 87 = .ok (.idiv, 1) := by decide +kernel
theorem dX6_otherwise_88 : decode cX6_otherwise 88 = .ok (.istore 7, 2) := by decide +kernel
theorem dX6_otherwise_90 : decode cX6_otherwise 90 = .ok (.iload 6, 2) := by decide +kernel
theorem dX6_otherwise_92 : decode cX6_otherwise 92 = .ok (.bipush 10, 2) := by decide +kernel
theorem dX6_otherwise_94 : decode cX6_otherwise 94 = .ok (.irem, 1) := by decide +kernel
theorem dX6_otherwise_95 : decode cX6_otherwise 95 = .ok (.bipush 9, 2) := by decide +kernel
theorem dX6_otherwise_97 : decode cX6_otherwise 97 = .ok (.if_icmp .ne 8, 3) := by decide +kernel
theorem dX6_otherwise_100 : decode cX6_otherwise 100 = .ok (.bipush (-9), 2) := by decide +kernel
theorem dX6_otherwise_102 : decode cX6_otherwise 102 = .ok (.goto 8, 3) := by decide +kernel
theorem dX6_otherwise_105 : decode cX6_otherwise 105 = .ok (.iload 6, 2) := by decide +kernel
theorem dX6_otherwise_107 : decode cX6_otherwise 107 = .ok (.bipush 10, 2) := by decide +kernel
theorem dX6_otherwise_109 : decode cX6_otherwise 109 = .ok (.irem, 1) := by decide +kernel
theorem dX6_otherwise_110 : decode cX6_otherwise 110 = .ok (.istore 8, 2) := by decide +kernel
theorem dX6_otherwise_112 : decode cX6_otherwise 112 = .ok (.iload 8, 2) := by decide +kernel
theorem dX6_otherwise_114 : decode cX6_otherwise 114 = .ok (.aload_n 0, 1) := by decide +kernel
theorem dX6_otherwise_115 : decode cX6_otherwise 115 = .ok (.getfield 13, 3) := by decide +kernel
theorem dX6_otherwise_118 : decode cX6_otherwise 118 = .ok (.iconst 2, 1) := by decide +kernel
theorem dX6_otherwise_119 : decode cX6_otherwise 119 = .ok (.iaload, 1) := by decide +kernel
theorem dX6_otherwise_120 : decode cX6_otherwise 120 = .ok (.if_icmp .ge 75, 3) := by decide +kernel
theorem dX6_otherwise_123 : decode cX6_otherwise 123 = .ok (.iload 8, 2) := by decide +kernel
theorem dX6_otherwise_125 : decode cX6_otherwise 125 = .ok (.aload_n 0, 1) := by decide +kernel
theorem dX6_otherwise_126 : decode cX6_otherwise 126 = .ok (.iload 7, 2) := by decide +kernel
theorem dX6_otherwise_128 : decode cX6_otherwise 128 = .ok (.iconst 3, 1) := by decide +kernel
theorem dX6_otherwise_129 : decode cX6_otherwise 129 = .ok (.invokevirtual 61, 3) := by decide +kernel
theorem dX6_otherwise_132 : decode cX6_otherwise 132 = .ok (.if_icmp .ne 6, 3) := by decide +kernel
theorem dX6_otherwise_135 : decode cX6_otherwise 135 = .ok (.goto 60, 3) := by decide +kernel
theorem dX6_otherwise_138 : decode cX6_otherwise 138 = .ok (.aload_n 0, 1) := by decide +kernel
theorem dX6_otherwise_139 : decode cX6_otherwise 139 = .ok (.iload 7, 2) := by decide +kernel
theorem dX6_otherwise_141 : decode cX6_otherwise 141 = .ok (.iload 8, 2) := by decide +kernel
theorem dX6_otherwise_143 : decode cX6_otherwise 143 = .ok (.invokevirtual 81, 3) := by decide +kernel
theorem dX6_otherwise_146 : decode cX6_otherwise 146 = .ok (.aload_n 0, 1) := by decide +kernel
theorem dX6_otherwise_147 : decode cX6_otherwise 147 = .ok (.iload_n 1, 1) := by decide +kernel
theorem dX6_otherwise_148 : decode cX6_otherwise 148 = .ok (.invokevirtual 103, 3) := by decide +kernel
theorem dX6_otherwise_151 : decode cX6_otherwise 151 = .ok (.aload_n 0, 1) := by decide +kernel
theorem dX6_otherwise_152 : decode cX6_otherwise 152 = .ok (.invokevirtual 186, 3) := by decide +kernel
theorem dX6_otherwise_155 : decode cX6_otherwise 155 = .ok (.istore 9, 2) := by decide +kernel
theorem dX6_otherwise_157 : decode cX6_otherwise 157 = .ok (.aload_n 0, 1) := by decide +kernel
theorem dX6_otherwise_158 : decode cX6_otherwise 158 = .ok (.invokevirtual 109, 3) := by decide +kernel
theorem dX6_otherwise_161 : decode cX6_otherwise 161 = .ok (.iload 9, 2) := by decide +kernel
theorem dX6_otherwise_163 : decode cX6_otherwise 163 = .ok (.ifCond .eq 13, 3) := by decide +kernel
theorem dX6_otherwise_166 : decode cX6_otherwise 166 = .ok (.iload 4, 2) := by decide +kernel
theorem dX6_otherwise_168 : decode cX6_otherwise 168 = .ok (.ifCond .ne 8, 3) := by decide +kernel
theorem dX6_otherwise_171 : decode cX6_otherwise 171 = .ok (.iload 6, 2) := by decide +kernel
theorem dX6_otherwise_173 : decode cX6_otherwise 173 = .ok (.goto 5, 3) := by decide +kernel
theorem dX6_otherwise_176 : decode cX6_otherwise 176 = .ok (.iload 5, 2) := by decide +kernel
theorem dX6_otherwise_178 : decode cX6_otherwise 178 = .ok (.istore 5, 2) := by decide +kernel
theorem dX6_otherwise_180 : decode cX6_otherwise 180 = .ok (.iload 4, 2) := by decide +kernel
theorem dX6_otherwise_182 : decode cX6_otherwise 182 = .ok (.iload 9, 2) := by decide +kernel
theorem dX6_otherwise_184 : decode cX6_otherwise 184 = .ok (.ifCond .eq 7, 3) := by decide +kernel
theorem dX6_otherwise_187 : decode cX6_otherwise 187 = .ok (.iconst 1, 1) := by decide +kernel
theorem dX6_otherwise_188 : decode cX6_otherwise 188 = .ok (.goto 4, 3) := by decide +kernel
theorem dX6_otherwise_191 : decode cX6_otherwise 191 = .ok (.iconst 0, 1) := by decide +kernel
theorem dX6_otherwise_192 : decode cX6_otherwise 192 = .ok (.iadd, 1) := by decide +kernel
theorem dX6_otherwise_193 : decode cX6_otherwise 193 = .ok (.istore 4, 2) := by decide +kernel
theorem dX6_otherwise_195 : decode cX6_otherwise 195 = .ok (.iinc 6 1, 3) := by decide +kernel
theorem dX6_otherwise_198 : decode cX6_otherwise 198 = .ok (.goto (-129), 3) := by decide +kernel
theorem dX6_otherwise_201 : decode cX6_otherwise 201 = .ok (.iload_n 2, 1) := by decide +kernel
theorem dX6_otherwise_202 : decode cX6_otherwise 202 = .ok (.ifCond .ne 8, 3) := by decide +kernel
theorem dX6_otherwise_205 : decode cX6_otherwise 205 = .ok (.iload 4, 2) := by decide +kernel
theorem dX6_otherwise_207 : decode cX6_otherwise 207 = .ok (.goto 5, 3) := by decide +kernel
theorem dX6_otherwise_210 : decode cX6_otherwise 210 = .ok (.iload 5, 2) := by decide +kernel
theorem dX6_otherwise_212 : decode cX6_otherwise 212 = .ok (.ireturn, 1) := by decide +kernel
theorem dX6_judge_0 : decode cX6_judge 0 = .ok (.aload_n 0, 1) := by decide +kernel
theorem dX6_judge_1 : decode cX6_judge 1 = .ok (.getfield 180, 3) := by decide +kernel
theorem dX6_judge_4 : decode cX6_judge 4 = .ok (.istore_n 1, 1) := by decide +kernel
theorem dX6_judge_5 : decode cX6_judge 5 = .ok (.aload_n 0, 1) := by decide +kernel
theorem dX6_judge_6 : decode cX6_judge 6 = .ok (.iconst 0, 1) := by decide +kernel
theorem dX6_judge_7 : decode cX6_judge 7 = .ok (.putfield 180, 3) := by decide +kernel
theorem dX6_judge_10 : decode cX6_judge 10 = .ok (.iconst 0, 1) := by decide +kernel
theorem dX6_judge_11 : decode cX6_judge 11 = .ok (.istore_n 2, 1) := by decide +kernel
theorem dX6_judge_12 : decode cX6_judge 12 = .ok (.iload_n 2, 1) := by decide +kernel
theorem dX6_judge_13 : decode cX6_judge 13 = .ok (.iload_n 1, 1) := by decide +kernel
theorem dX6_judge_14 : decode cX6_judge 14 = .ok (.if_icmp .ge 29, 3) := by decide +kernel
theorem dX6_judge_17 : decode cX6_judge 17 = .ok (.iload_n 2, 1) := by decide +kernel
theorem dX6_judge_18 : decode cX6_judge 18 = .ok (.aload_n 0, 1) := by decide +kernel
theorem dX6_judge_19 : decode cX6_judge 19 = .ok (.getfield 13, 3) := by decide +kernel
theorem dX6_judge_22 : decode cX6_judge 22 = .ok (.iconst 3, 1) := by decide +kernel
theorem dX6_judge_23 : decode cX6_judge 23 = .ok (.iaload, 1) := by decide +kernel
theorem dX6_judge_24 : decode cX6_judge 24 = .ok (.if_icmp .eq 11, 3) := by decide +kernel
theorem dX6_judge_27 : decode cX6_judge 27 = .ok (.aload_n 0, 1) := by decide +kernel
theorem dX6_judge_28 : decode cX6_judge 28 = .ok (.iload_n 2, 1) := by decide +kernel
theorem dX6_judge_29 : decode cX6_judge 29 = .ok (.invokevirtual 183, 3) := by decide +kernel
theorem dX6_judge_32 : decode cX6_judge 32 = .ok (.ifCond .ne 5, 3) := by decide +kernel
theorem dX6_judge_35 : decode cX6_judge 35 = .ok (.iload_n 2, 1) := by decide +kernel
theorem dX6_judge_36 : decode cX6_judge 36 = .ok (.ireturn, 1) := by decide +kernel
theorem dX6_judge_37 : decode cX6_judge 37 = .ok (.iinc 2 1, 3) := by decide +kernel
theorem dX6_judge_40 : decode cX6_judge 40 = .ok (.goto (-28), 3) := by decide +kernel
theorem dX6_judge_43 : decode cX6_judge 43 = .ok (.iload_n 1, 1) := by decide +kernel
theorem dX6_judge_44 : decode cX6_judge 44 = .ok (.aload_n 0, 1) := by decide +kernel
theorem dX6_judge_45 : decode cX6_judge 45 = .ok (.getfield 13, 3) := by decide +kernel
theorem dX6_judge_48 : decode cX6_judge 48 = .ok (.iconst 3, 1) := by decide +kernel
theorem dX6_judge_49 : decode cX6_judge 49 = .ok (.iaload, 1) := by decide +kernel
theorem dX6_judge_50 : decode cX6_judge 50 = .ok (.if_icmp .ge 7, 3) := by decide +kernel
theorem dX6_judge_53 : decode cX6_judge 53 = .ok (.iload_n 1, 1) := by decide +kernel
theorem dX6_judge_54 : decode cX6_judge 54 = .ok (.goto 5, 3) := by decide +kernel
theorem dX6_judge_57 : decode cX6_judge 57 = .ok (.bipush (-9), 2) := by decide +kernel
theorem dX6_judge_59 : decode cX6_judge 59 = .ok (.ireturn, 1) := by decide +kernel
theorem dX6_seeds_0 : decode cX6_seeds 0 = .ok (.iload_n 1, 1) := by decide +kernel
theorem dX6_seeds_1 : decode cX6_seeds 1 = .ok (.iconst 1, 1) := by decide +kernel
theorem dX6_seeds_2 : decode cX6_seeds 2 = .ok (.bipush 40, 2) := by decide +kernel
theorem dX6_seeds_4 : decode cX6_seeds 4 = .ok (.invokestatic 112, 3) := by decide +kernel
theorem dX6_seeds_7 : decode cX6_seeds 7 = .ok (.istore_n 3, 1) := by decide +kernel
theorem dX6_seeds_8 : decode cX6_seeds 8 = .ok (.iload_n 3, 1) := by decide +kernel
theorem dX6_seeds_9 : decode cX6_seeds 9 = .ok (.ifCond .eq 9, 3) := by decide +kernel
theorem dX6_seeds_12 : decode cX6_seeds 12 = .ok (.aload_n 0, 1) := by decide +kernel
theorem dX6_seeds_13 : decode cX6_seeds 13 = .ok (.iload_n 3, 1) := by decide +kernel
theorem dX6_seeds_14 : decode cX6_seeds 14 = .ok (.invokevirtual 120, 3) := by decide +kernel
theorem dX6_seeds_17 : decode cX6_seeds 17 = .ok (.ireturn, 1) := by decide +kernel
theorem dX6_seeds_18 : decode cX6_seeds 18 = .ok (.aload_n 0, 1) := by decide +kernel
theorem dX6_seeds_19 : decode cX6_seeds 19 = .ok (.invokevirtual 96, 3) := by decide +kernel
theorem dX6_seeds_22 : decode cX6_seeds 22 = .ok (.iload_n 2, 1) := by decide +kernel
theorem dX6_seeds_23 : decode cX6_seeds 23 = .ok (.istore 4, 2) := by decide +kernel
theorem dX6_seeds_25 : decode cX6_seeds 25 = .ok (.iconst 0, 1) := by decide +kernel
theorem dX6_seeds_26 : decode cX6_seeds 26 = .ok (.istore 5, 2) := by decide +kernel
theorem dX6_seeds_28 : decode cX6_seeds 28 = .ok (.iload 5, 2) := by decide +kernel
theorem dX6_seeds_30 : decode cX6_seeds 30 = .ok (.iload_n 1, 1) := by decide +kernel
theorem dX6_seeds_31 : decode cX6_seeds 31 = .ok (.if_icmp .ge 62, 3) := by decide +kernel
theorem dX6_seeds_34 : decode cX6_seeds 34 = .ok (.iconst 0, 1) := by decide +kernel
theorem dX6_seeds_35 : decode cX6_seeds 35 = .ok (.istore 6, 2) := by decide +kernel
theorem dX6_seeds_37 : decode cX6_seeds 37 = .ok (.iload 6, 2) := by decide +kernel
theorem dX6_seeds_39 : decode cX6_seeds 39 = .ok (.aload_n 0, 1) := by decide +kernel
theorem dX6_seeds_40 : decode cX6_seeds 40 = .ok (.getfield 13, 3) := by decide +kernel
theorem dX6_seeds_43 : decode cX6_seeds 43 = .ok (.iconst 3, 1) := by decide +kernel
theorem dX6_seeds_44 : decode cX6_seeds 44 = .ok (.iaload, 1) := by decide +kernel
theorem dX6_seeds_45 : decode cX6_seeds 45 = .ok (.if_icmp .ge 37, 3) := by decide +kernel
theorem dX6_seeds_48 : decode cX6_seeds 48 = .ok (.iload 4, 2) := by decide +kernel
theorem dX6_seeds_50 : decode cX6_seeds 50 = .ok (.ldc 189, 2) := by decide +kernel
theorem dX6_seeds_52 : decode cX6_seeds 52 = .ok (.imul, 1) := by decide +kernel
theorem dX6_seeds_53 : decode cX6_seeds 53 = .ok (.ldc 190, 2) := by decide +kernel
theorem dX6_seeds_55 : decode cX6_seeds 55 = .ok (.iadd, 1) := by decide +kernel
theorem dX6_seeds_56 : decode cX6_seeds 56 = .ok (.istore 4, 2) := by decide +kernel
theorem dX6_seeds_58 : decode cX6_seeds 58 = .ok (.aload_n 0, 1) := by decide +kernel
theorem dX6_seeds_59 : decode cX6_seeds 59 = .ok (.iload 6, 2) := by decide +kernel
theorem dX6_seeds_61 : decode cX6_seeds 61 = .ok (.iconst 1, 1) := by decide +kernel
theorem dX6_seeds_62 : decode cX6_seeds 62 = .ok (.iload 4, 2) := by decide +kernel
theorem dX6_seeds_64 : decode cX6_seeds 64 = .ok (.ldc 191, 2) := by decide +kernel
theorem dX6_seeds_66 : decode cX6_seeds 66 = .ok (.iand, 1) := by decide +kernel
theorem dX6_seeds_67 : decode cX6_seeds 67 = .ok (.sipush 256, 3) := by decide +kernel
theorem dX6_seeds_70 : decode cX6_seeds 70 = .ok (.idiv, 1) := by decide +kernel
theorem dX6_seeds_71 : decode cX6_seeds 71 = .ok (.iconst 5, 1) := by decide +kernel
theorem dX6_seeds_72 : decode cX6_seeds 72 = .ok (.irem, 1) := by decide +kernel
theorem dX6_seeds_73 : decode cX6_seeds 73 = .ok (.invokevirtual 64, 3) := by decide +kernel
theorem dX6_seeds_76 : decode cX6_seeds 76 = .ok (.iinc 6 1, 3) := by decide +kernel
theorem dX6_seeds_79 : decode cX6_seeds 79 = .ok (.goto (-42), 3) := by decide +kernel
theorem dX6_seeds_82 : decode cX6_seeds 82 = .ok (.aload_n 0, 1) := by decide +kernel
theorem dX6_seeds_83 : decode cX6_seeds 83 = .ok (.invokevirtual 99, 3) := by decide +kernel
theorem dX6_seeds_86 : decode cX6_seeds 86 = .ok (.pop, 1) := by decide +kernel
theorem dX6_seeds_87 : decode cX6_seeds 87 = .ok (.iinc 5 1, 3) := by decide +kernel
theorem dX6_seeds_90 : decode cX6_seeds 90 = .ok (.goto (-62), 3) := by decide +kernel
theorem dX6_seeds_93 : decode cX6_seeds 93 = .ok (.aload_n 0, 1) := by decide +kernel
theorem dX6_seeds_94 : decode cX6_seeds 94 = .ok (.iconst (-1), 1) := by decide +kernel
theorem dX6_seeds_95 : decode cX6_seeds 95 = .ok (.invokevirtual 106, 3) := by decide +kernel
theorem dX6_seeds_98 : decode cX6_seeds 98 = .ok (.istore 5, 2) := by decide +kernel
theorem dX6_seeds_100 : decode cX6_seeds 100 = .ok (.aload_n 0, 1) := by decide +kernel
theorem dX6_seeds_101 : decode cX6_seeds 101 = .ok (.invokevirtual 109, 3) := by decide +kernel
theorem dX6_seeds_104 : decode cX6_seeds 104 = .ok (.iload 5, 2) := by decide +kernel
theorem dX6_seeds_106 : decode cX6_seeds 106 = .ok (.ireturn, 1) := by decide +kernel
theorem dX6_image_0 : decode cX6_image 0 = .ok (.aload_n 0, 1) := by decide +kernel
theorem dX6_image_1 : decode cX6_image 1 = .ok (.getfield 13, 3) := by decide +kernel
theorem dX6_image_4 : decode cX6_image 4 = .ok (.aload_n 0, 1) := by decide +kernel
theorem dX6_image_5 : decode cX6_image 5 = .ok (.getfield 16, 3) := by decide +kernel
theorem dX6_image_8 : decode cX6_image 8 = .ok (.invokestatic 49, 3) := by decide +kernel
theorem dX6_image_11 : decode cX6_image 11 = .ok (.aload_n 0, 1) := by decide +kernel
theorem dX6_image_12 : decode cX6_image 12 = .ok (.iconst 1, 1) := by decide +kernel
theorem dX6_image_13 : decode cX6_image 13 = .ok (.putfield 192, 3) := by decide +kernel
theorem dX6_image_16 : decode cX6_image 16 = .ok (.aload_n 0, 1) := by decide +kernel
theorem dX6_image_17 : decode cX6_image 17 = .ok (.getfield 13, 3) := by decide +kernel
theorem dX6_image_20 : decode cX6_image 20 = .ok (.iconst 4, 1) := by decide +kernel
theorem dX6_image_21 : decode cX6_image 21 = .ok (.iaload, 1) := by decide +kernel
theorem dX6_image_22 : decode cX6_image 22 = .ok (.ireturn, 1) := by decide +kernel
theorem dX6_on_0 : decode cX6_on 0 = .ok (.aload_n 0, 1) := by decide +kernel
theorem dX6_on_1 : decode cX6_on 1 = .ok (.getfield 192, 3) := by decide +kernel
theorem dX6_on_4 : decode cX6_on 4 = .ok (.ifCond .ne 10, 3) := by decide +kernel
theorem dX6_on_7 : decode cX6_on 7 = .ok (.aload_n 0, 1) := by decide +kernel
theorem dX6_on_8 : decode cX6_on 8 = .ok (.bipush (-3), 2) := by decide +kernel
theorem dX6_on_10 : decode cX6_on 10 = .ok (.invokevirtual 120, 3) := by decide +kernel
theorem dX6_on_13 : decode cX6_on 13 = .ok (.ireturn, 1) := by decide +kernel
theorem dX6_on_14 : decode cX6_on 14 = .ok (.aload_n 0, 1) := by decide +kernel
theorem dX6_on_15 : decode cX6_on 15 = .ok (.getfield 16, 3) := by decide +kernel
theorem dX6_on_18 : decode cX6_on 18 = .ok (.aload_n 0, 1) := by decide +kernel
theorem dX6_on_19 : decode cX6_on 19 = .ok (.getfield 13, 3) := by decide +kernel
theorem dX6_on_22 : decode cX6_on 22 = .ok (.invokestatic 49, 3) := by decide +kernel
theorem dX6_on_25 : decode cX6_on 25 = .ok (.aload_n 0, 1) := by decide +kernel
theorem dX6_on_26 : decode cX6_on 26 = .ok (.getfield 13, 3) := by decide +kernel
theorem dX6_on_29 : decode cX6_on 29 = .ok (.iconst 4, 1) := by decide +kernel
theorem dX6_on_30 : decode cX6_on 30 = .ok (.iaload, 1) := by decide +kernel
theorem dX6_on_31 : decode cX6_on 31 = .ok (.ireturn, 1) := by decide +kernel
theorem dX6_bits_0 : decode cX6_bits 0 = .ok (.iconst 0, 1) := by decide +kernel
theorem dX6_bits_1 : decode cX6_bits 1 = .ok (.istore_n 1, 1) := by decide +kernel
theorem dX6_bits_2 : decode cX6_bits 2 = .ok (.iload_n 0, 1) := by decide +kernel
theorem dX6_bits_3 : decode cX6_bits 3 = .ok (.istore_n 2, 1) := by decide +kernel
theorem dX6_bits_4 : decode cX6_bits 4 = .ok (.iload_n 2, 1) := by decide +kernel
theorem dX6_bits_5 : decode cX6_bits 5 = .ok (.ifCond .le 16, 3) := by decide +kernel
theorem dX6_bits_8 : decode cX6_bits 8 = .ok (.iload_n 1, 1) := by decide +kernel
theorem dX6_bits_9 : decode cX6_bits 9 = .ok (.iload_n 2, 1) := by decide +kernel
theorem dX6_bits_10 : decode cX6_bits 10 = .ok (.iconst 1, 1) := by decide +kernel
theorem dX6_bits_11 : decode cX6_bits 11 = .ok (.iand, 1) := by decide +kernel
theorem dX6_bits_12 : decode cX6_bits 12 = .ok (.iadd, 1) := by decide +kernel
theorem dX6_bits_13 : decode cX6_bits 13 = .ok (.istore_n 1, 1) := by decide +kernel
theorem dX6_bits_14 : decode cX6_bits 14 = .ok (.iload_n 2, 1) := by decide +kernel
theorem dX6_bits_15 : decode cX6_bits 15 = .ok (.iconst 1, 1) := by decide +kernel
theorem dX6_bits_16 : decode cX6_bits 16 = .ok (.ishr, 1) := by decide +kernel
theorem dX6_bits_17 : decode cX6_bits 17 = .ok (.istore_n 2, 1) := by decide +kernel
theorem dX6_bits_18 : decode cX6_bits 18 = .ok (.goto (-14), 3) := by decide +kernel
theorem dX6_bits_21 : decode cX6_bits 21 = .ok (.iload_n 1, 1) := by decide +kernel
theorem dX6_bits_22 : decode cX6_bits 22 = .ok (.ireturn, 1) := by decide +kernel
theorem dX6_count_0 : decode cX6_count 0 = .ok (.iload_n 1, 1) := by decide +kernel
theorem dX6_count_1 : decode cX6_count 1 = .ok (.bipush 10, 2) := by decide +kernel
theorem dX6_count_3 : decode cX6_count 3 = .ok (.if_icmp .le 19, 3) := by decide +kernel
theorem dX6_count_6 : decode cX6_count 6 = .ok (.iload_n 1, 1) := by decide +kernel
theorem dX6_count_7 : decode cX6_count 7 = .ok (.bipush 17, 2) := by decide +kernel
theorem dX6_count_9 : decode cX6_count 9 = .ok (.if_icmp .ge 13, 3) := by decide +kernel
theorem dX6_count_12 : decode cX6_count 12 = .ok (.aload_n 0, 1) := by decide +kernel
theorem dX6_count_13 : decode cX6_count 13 = .ok (.getfield 7, 3) := by decide +kernel
theorem dX6_count_16 : decode cX6_count 16 = .ok (.iload_n 1, 1) := by decide +kernel
theorem dX6_count_17 : decode cX6_count 17 = .ok (.bipush 10, 2) := by decide +kernel
theorem dX6_count_19 : decode cX6_count 19 = .ok (.isub, 1) := by decide +kernel
theorem dX6_count_20 : decode cX6_count 20 = .ok (.iaload, 1) := by decide +kernel
theorem dX6_count_21 : decode cX6_count 21 = .ok (.ireturn, 1) := by decide +kernel
theorem dX6_count_22 : decode cX6_count 22 = .ok (.iconst 0, 1) := by decide +kernel
theorem dX6_count_23 : decode cX6_count 23 = .ok (.istore_n 2, 1) := by decide +kernel
theorem dX6_count_24 : decode cX6_count 24 = .ok (.iload_n 1, 1) := by decide +kernel
theorem dX6_count_25 : decode cX6_count 25 = .ok (.tableswitch 138 0 9 #[55, 62, 69, 76, 86, 86, 93, 99, 128, 133], 55) := by decide +kernel
theorem dX6_count_80 : decode cX6_count 80 = .ok (.aload_n 0, 1) := by decide +kernel
theorem dX6_count_81 : decode cX6_count 81 = .ok (.getfield 13, 3) := by decide +kernel
theorem dX6_count_84 : decode cX6_count 84 = .ok (.iconst 3, 1) := by decide +kernel
theorem dX6_count_85 : decode cX6_count 85 = .ok (.iaload, 1) := by decide +kernel
theorem dX6_count_86 : decode cX6_count 86 = .ok (.ireturn, 1) := by decide +kernel
theorem dX6_count_87 : decode cX6_count 87 = .ok (.aload_n 0, 1) := by decide +kernel
theorem dX6_count_88 : decode cX6_count 88 = .ok (.getfield 13, 3) := by decide +kernel
theorem dX6_count_91 : decode cX6_count 91 = .ok (.iconst 2, 1) := by decide +kernel
theorem dX6_count_92 : decode cX6_count 92 = .ok (.iaload, 1) := by decide +kernel
theorem dX6_count_93 : decode cX6_count 93 = .ok (.ireturn, 1) := by decide +kernel
theorem dX6_count_94 : decode cX6_count 94 = .ok (.aload_n 0, 1) := by decide +kernel
theorem dX6_count_95 : decode cX6_count 95 = .ok (.getfield 13, 3) := by decide +kernel
theorem dX6_count_98 : decode cX6_count 98 = .ok (.iconst 0, 1) := by decide +kernel
theorem dX6_count_99 : decode cX6_count 99 = .ok (.iaload, 1) := by decide +kernel
theorem dX6_count_100 : decode cX6_count 100 = .ok (.ireturn, 1) := by decide +kernel
theorem dX6_count_101 : decode cX6_count 101 = .ok (.aload_n 0, 1) := by decide +kernel
theorem dX6_count_102 : decode cX6_count 102 = .ok (.getfield 13, 3) := by decide +kernel
theorem dX6_count_105 : decode cX6_count 105 = .ok (.iconst 1, 1) := by decide +kernel
theorem dX6_count_106 : decode cX6_count 106 = .ok (.iaload, 1) := by decide +kernel
theorem dX6_count_107 : decode cX6_count 107 = .ok (.invokestatic 196, 3) := by decide +kernel
theorem dX6_count_110 : decode cX6_count 110 = .ok (.ireturn, 1) := by decide +kernel
theorem dX6_count_111 : decode cX6_count 111 = .ok (.aload_n 0, 1) := by decide +kernel
theorem dX6_count_112 : decode cX6_count 112 = .ok (.getfield 13, 3) := by decide +kernel
theorem dX6_count_115 : decode cX6_count 115 = .ok (.iload_n 1, 1) := by decide +kernel
theorem dX6_count_116 : decode cX6_count 116 = .ok (.iaload, 1) := by decide +kernel
theorem dX6_count_117 : decode cX6_count 117 = .ok (.ireturn, 1) := by decide +kernel
theorem dX6_count_118 : decode cX6_count 118 = .ok (.aload_n 0, 1) := by decide +kernel
theorem dX6_count_119 : decode cX6_count 119 = .ok (.iconst (-1), 1) := by decide +kernel
theorem dX6_count_120 : decode cX6_count 120 = .ok (.invokevirtual 106, 3) := by decide +kernel
theorem dX6_count_123 : decode cX6_count 123 = .ok (.ireturn, 1) := by decide +kernel
theorem dX6_count_124 : decode cX6_count 124 = .ok (.iconst 0, 1) := by decide +kernel
theorem dX6_count_125 : decode cX6_count 125 = .ok (.istore_n 3, 1) := by decide +kernel
theorem dX6_count_126 : decode cX6_count 126 = .ok (.iload_n 3, 1) := by decide +kernel
theorem dX6_count_127 : decode cX6_count 127 = .ok (.aload_n 0, 1) := by decide +kernel
theorem dX6_count_128 : decode cX6_count 128 = .ok (.getfield 13, 3) := by decide +kernel
theorem dX6_count_131 : decode cX6_count 131 = .ok (.iconst 3, 1) := by decide +kernel
theorem dX6_count_132 : decode cX6_count 132 = .ok (.iaload, 1) := by decide +kernel
theorem dX6_count_133 : decode cX6_count 133 = .ok (.if_icmp .ge 18, 3) := by decide +kernel
theorem dX6_count_136 : decode cX6_count 136 = .ok (.iload_n 2, 1) := by decide +kernel
theorem dX6_count_137 : decode cX6_count 137 = .ok (.aload_n 0, 1) := by decide +kernel
theorem dX6_count_138 : decode cX6_count 138 = .ok (.iload_n 3, 1) := by decide +kernel
theorem dX6_count_139 : decode cX6_count 139 = .ok (.iconst 4, 1) := by decide +kernel
theorem dX6_count_140 : decode cX6_count 140 = .ok (.invokevirtual 61, 3) := by decide +kernel
theorem dX6_count_143 : decode cX6_count 143 = .ok (.iadd, 1) := by decide +kernel
theorem dX6_count_144 : decode cX6_count 144 = .ok (.istore_n 2, 1) := by decide +kernel
theorem dX6_count_145 : decode cX6_count 145 = .ok (.iinc 3 1, 3) := by decide +kernel
theorem dX6_count_148 : decode cX6_count 148 = .ok (.goto (-22), 3) := by decide +kernel
theorem dX6_count_151 : decode cX6_count 151 = .ok (.iload_n 2, 1) := by decide +kernel
theorem dX6_count_152 : decode cX6_count 152 = .ok (.ireturn, 1) := by decide +kernel
theorem dX6_count_153 : decode cX6_count 153 = .ok (.aload_n 0, 1) := by decide +kernel
theorem dX6_count_154 : decode cX6_count 154 = .ok (.getfield 180, 3) := by decide +kernel
theorem dX6_count_157 : decode cX6_count 157 = .ok (.ireturn, 1) := by decide +kernel
theorem dX6_count_158 : decode cX6_count 158 = .ok (.aload_n 0, 1) := by decide +kernel
theorem dX6_count_159 : decode cX6_count 159 = .ok (.getfield 116, 3) := by decide +kernel
theorem dX6_count_162 : decode cX6_count 162 = .ok (.ireturn, 1) := by decide +kernel
theorem dX6_count_163 : decode cX6_count 163 = .ok (.bipush (-9), 2) := by decide +kernel
theorem dX6_count_165 : decode cX6_count 165 = .ok (.ireturn, 1) := by decide +kernel
