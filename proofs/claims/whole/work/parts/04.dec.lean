theorem dX0_init_0 : decode cX0_init 0 = .ok (.aload_n 0, 1) := by decide +kernel
theorem dX0_init_1 : decode cX0_init 1 = .ok (.invokespecial 3, 3) := by decide +kernel
theorem dX0_init_4 : decode cX0_init 4 = .ok (.aload_n 0, 1) := by decide +kernel
theorem dX0_init_5 : decode cX0_init 5 = .ok (.bipush 8, 2) := by decide +kernel
theorem dX0_init_7 : decode cX0_init 7 = .ok (.newarray .int, 2) := by decide +kernel
theorem dX0_init_9 : decode cX0_init 9 = .ok (.putfield 9, 3) := by decide +kernel
theorem dX0_init_12 : decode cX0_init 12 = .ok (.aload_n 0, 1) := by decide +kernel
theorem dX0_init_13 : decode cX0_init 13 = .ok (.bipush 8, 2) := by decide +kernel
theorem dX0_init_15 : decode cX0_init 15 = .ok (.newarray .int, 2) := by decide +kernel
theorem dX0_init_17 : decode cX0_init 17 = .ok (.putfield 15, 3) := by decide +kernel
theorem dX0_init_20 : decode cX0_init 20 = .ok (.aload_n 0, 1) := by decide +kernel
theorem dX0_init_21 : decode cX0_init 21 = .ok (.bipush 8, 2) := by decide +kernel
theorem dX0_init_23 : decode cX0_init 23 = .ok (.newarray .int, 2) := by decide +kernel
theorem dX0_init_25 : decode cX0_init 25 = .ok (.putfield 18, 3) := by decide +kernel
theorem dX0_init_28 : decode cX0_init 28 = .ok (.aload_n 0, 1) := by decide +kernel
theorem dX0_init_29 : decode cX0_init 29 = .ok (.iconst 0, 1) := by decide +kernel
theorem dX0_init_30 : decode cX0_init 30 = .ok (.putfield 21, 3) := by decide +kernel
theorem dX0_init_33 : decode cX0_init 33 = .ok (.return_, 1) := by decide +kernel
theorem dX0_has_0 : decode cX0_has 0 = .ok (.iload_n 1, 1) := by decide +kernel
theorem dX0_has_1 : decode cX0_has 1 = .ok (.ifCond .lt 15, 3) := by decide +kernel
theorem dX0_has_4 : decode cX0_has 4 = .ok (.iload_n 1, 1) := by decide +kernel
theorem dX0_has_5 : decode cX0_has 5 = .ok (.aload_n 0, 1) := by decide +kernel
theorem dX0_has_6 : decode cX0_has 6 = .ok (.getfield 21, 3) := by decide +kernel
theorem dX0_has_9 : decode cX0_has 9 = .ok (.if_icmp .ge 7, 3) := by decide +kernel
theorem dX0_has_12 : decode cX0_has 12 = .ok (.iconst 1, 1) := by decide +kernel
theorem dX0_has_13 : decode cX0_has 13 = .ok (.goto 4, 3) := by decide +kernel
theorem dX0_has_16 : decode cX0_has 16 = .ok (.iconst 0, 1) := by decide +kernel
theorem dX0_has_17 : decode cX0_has 17 = .ok (.ireturn, 1) := by decide +kernel
theorem dX0_add_0 : decode cX0_add 0 = .ok (.aload_n 0, 1) := by decide +kernel
theorem dX0_add_1 : decode cX0_add 1 = .ok (.getfield 21, 3) := by decide +kernel
theorem dX0_add_4 : decode cX0_add 4 = .ok (.bipush 8, 2) := by decide +kernel
theorem dX0_add_6 : decode cX0_add 6 = .ok (.if_icmp .ge 22, 3) := by decide +kernel
theorem dX0_add_9 : decode cX0_add 9 = .ok (.iload_n 1, 1) := by decide +kernel
theorem dX0_add_10 : decode cX0_add 10 = .ok (.invokestatic 25, 3) := by decide +kernel
theorem dX0_add_13 : decode cX0_add 13 = .ok (.ifCond .eq 15, 3) := by decide +kernel
theorem dX0_add_16 : decode cX0_add 16 = .ok (.iload_n 2, 1) := by decide +kernel
theorem dX0_add_17 : decode cX0_add 17 = .ok (.invokestatic 25, 3) := by decide +kernel
theorem dX0_add_20 : decode cX0_add 20 = .ok (.ifCond .eq 8, 3) := by decide +kernel
theorem dX0_add_23 : decode cX0_add 23 = .ok (.iload_n 1, 1) := by decide +kernel
theorem dX0_add_24 : decode cX0_add 24 = .ok (.iload_n 2, 1) := by decide +kernel
theorem dX0_add_25 : decode cX0_add 25 = .ok (.if_icmp .ne 5, 3) := by decide +kernel
theorem dX0_add_28 : decode cX0_add 28 = .ok (.iconst 0, 1) := by decide +kernel
theorem dX0_add_29 : decode cX0_add 29 = .ok (.ireturn, 1) := by decide +kernel
theorem dX0_add_30 : decode cX0_add 30 = .ok (.aload_n 0, 1) := by decide +kernel
theorem dX0_add_31 : decode cX0_add 31 = .ok (.getfield 9, 3) := by decide +kernel
theorem dX0_add_34 : decode cX0_add 34 = .ok (.aload_n 0, 1) := by decide +kernel
theorem dX0_add_35 : decode cX0_add 35 = .ok (.getfield 21, 3) := by decide +kernel
theorem dX0_add_38 : decode cX0_add 38 = .ok (.iload_n 1, 1) := by decide +kernel
theorem dX0_add_39 : decode cX0_add 39 = .ok (.invokestatic 29, 3) := by decide +kernel
theorem dX0_add_42 : decode cX0_add 42 = .ok (.aload_n 0, 1) := by decide +kernel
theorem dX0_add_43 : decode cX0_add 43 = .ok (.getfield 15, 3) := by decide +kernel
theorem dX0_add_46 : decode cX0_add 46 = .ok (.aload_n 0, 1) := by decide +kernel
theorem dX0_add_47 : decode cX0_add 47 = .ok (.getfield 21, 3) := by decide +kernel
theorem dX0_add_50 : decode cX0_add 50 = .ok (.iload_n 2, 1) := by decide +kernel
theorem dX0_add_51 : decode cX0_add 51 = .ok (.invokestatic 29, 3) := by decide +kernel
theorem dX0_add_54 : decode cX0_add 54 = .ok (.aload_n 0, 1) := by decide +kernel
theorem dX0_add_55 : decode cX0_add 55 = .ok (.getfield 18, 3) := by decide +kernel
theorem dX0_add_58 : decode cX0_add 58 = .ok (.aload_n 0, 1) := by decide +kernel
theorem dX0_add_59 : decode cX0_add 59 = .ok (.getfield 21, 3) := by decide +kernel
theorem dX0_add_62 : decode cX0_add 62 = .ok (.iconst 1, 1) := by decide +kernel
theorem dX0_add_63 : decode cX0_add 63 = .ok (.invokestatic 29, 3) := by decide +kernel
theorem dX0_add_66 : decode cX0_add 66 = .ok (.aload_n 0, 1) := by decide +kernel
theorem dX0_add_67 : decode cX0_add 67 = .ok (.dup, 1) := by decide +kernel
theorem dX0_add_68 : decode cX0_add 68 = .ok (.getfield 21, 3) := by decide +kernel
theorem dX0_add_71 : decode cX0_add 71 = .ok (.iconst 1, 1) := by decide +kernel
theorem dX0_add_72 : decode cX0_add 72 = .ok (.iadd, 1) := by decide +kernel
theorem dX0_add_73 : decode cX0_add 73 = .ok (.putfield 21, 3) := by decide +kernel
theorem dX0_add_76 : decode cX0_add 76 = .ok (.iconst 1, 1) := by decide +kernel
theorem dX0_add_77 : decode cX0_add 77 = .ok (.ireturn, 1) := by decide +kernel
theorem dX0_isOpen_0 : decode cX0_isOpen 0 = .ok (.aload_n 0, 1) := by decide +kernel
theorem dX0_isOpen_1 : decode cX0_isOpen 1 = .ok (.iload_n 1, 1) := by decide +kernel
theorem dX0_isOpen_2 : decode cX0_isOpen 2 = .ok (.invokevirtual 33, 3) := by decide +kernel
theorem dX0_isOpen_5 : decode cX0_isOpen 5 = .ok (.ifCond .eq 19, 3) := by decide +kernel
theorem dX0_isOpen_8 : decode cX0_isOpen 8 = .ok (.aload_n 0, 1) := by decide +kernel
theorem dX0_isOpen_9 : decode cX0_isOpen 9 = .ok (.getfield 18, 3) := by decide +kernel
theorem dX0_isOpen_12 : decode cX0_isOpen 12 = .ok (.iload_n 1, 1) := by decide +kernel
theorem dX0_isOpen_13 : decode cX0_isOpen 13 = .ok (.invokestatic 36, 3) := by decide +kernel
theorem dX0_isOpen_16 : decode cX0_isOpen 16 = .ok (.iconst 1, 1) := by decide +kernel
theorem dX0_isOpen_17 : decode cX0_isOpen 17 = .ok (.if_icmp .ne 7, 3) := by decide +kernel
theorem dX0_isOpen_20 : decode cX0_isOpen 20 = .ok (.iconst 1, 1) := by decide +kernel
theorem dX0_isOpen_21 : decode cX0_isOpen 21 = .ok (.goto 4, 3) := by decide +kernel
theorem dX0_isOpen_24 : decode cX0_isOpen 24 = .ok (.iconst 0, 1) := by decide +kernel
theorem dX0_isOpen_25 : decode cX0_isOpen 25 = .ok (.ireturn, 1) := by decide +kernel
theorem dX0_turn_0 : decode cX0_turn 0 = .ok (.aload_n 0, 1) := by decide +kernel
theorem dX0_turn_1 : decode cX0_turn 1 = .ok (.getfield 18, 3) := by decide +kernel
theorem dX0_turn_4 : decode cX0_turn 4 = .ok (.iload_n 1, 1) := by decide +kernel
theorem dX0_turn_5 : decode cX0_turn 5 = .ok (.aload_n 0, 1) := by decide +kernel
theorem dX0_turn_6 : decode cX0_turn 6 = .ok (.iload_n 1, 1) := by decide +kernel
theorem dX0_turn_7 : decode cX0_turn 7 = .ok (.invokevirtual 40, 3) := by decide +kernel
theorem dX0_turn_10 : decode cX0_turn 10 = .ok (.ifCond .eq 7, 3) := by decide +kernel
theorem dX0_turn_13 : decode cX0_turn 13 = .ok (.iconst 0, 1) := by decide +kernel
theorem dX0_turn_14 : decode cX0_turn 14 = .ok (.goto 4, 3) := by decide +kernel
theorem dX0_turn_17 : decode cX0_turn 17 = .ok (.iconst 1, 1) := by decide +kernel
theorem dX0_turn_18 : decode cX0_turn 18 = .ok (.invokestatic 29, 3) := by decide +kernel
theorem dX0_turn_21 : decode cX0_turn 21 = .ok (.aload_n 0, 1) := by decide +kernel
theorem dX0_turn_22 : decode cX0_turn 22 = .ok (.getfield 18, 3) := by decide +kernel
theorem dX0_turn_25 : decode cX0_turn 25 = .ok (.iload_n 1, 1) := by decide +kernel
theorem dX0_turn_26 : decode cX0_turn 26 = .ok (.invokestatic 36, 3) := by decide +kernel
theorem dX0_turn_29 : decode cX0_turn 29 = .ok (.ireturn, 1) := by decide +kernel
theorem dX0_openOnes_0 : decode cX0_openOnes 0 = .ok (.iconst 0, 1) := by decide +kernel
theorem dX0_openOnes_1 : decode cX0_openOnes 1 = .ok (.istore_n 1, 1) := by decide +kernel
theorem dX0_openOnes_2 : decode cX0_openOnes 2 = .ok (.iconst 0, 1) := by decide +kernel
theorem dX0_openOnes_3 : decode cX0_openOnes 3 = .ok (.istore_n 2, 1) := by decide +kernel
theorem dX0_openOnes_4 : decode cX0_openOnes 4 = .ok (.iload_n 2, 1) := by decide +kernel
theorem dX0_openOnes_5 : decode cX0_openOnes 5 = .ok (.aload_n 0, 1) := by decide +kernel
theorem dX0_openOnes_6 : decode cX0_openOnes 6 = .ok (.getfield 21, 3) := by decide +kernel
theorem dX0_openOnes_9 : decode cX0_openOnes 9 = .ok (.if_icmp .ge 25, 3) := by decide +kernel
theorem dX0_openOnes_12 : decode cX0_openOnes 12 = .ok (.iload_n 1, 1) := by decide +kernel
theorem dX0_openOnes_13 : decode cX0_openOnes 13 = .ok (.aload_n 0, 1) := by decide +kernel
theorem dX0_openOnes_14 : decode cX0_openOnes 14 = .ok (.iload_n 2, 1) := by decide +kernel
theorem dX0_openOnes_15 : decode cX0_openOnes 15 = .ok (.invokevirtual 40, 3) := by decide +kernel
theorem dX0_openOnes_18 : decode cX0_openOnes 18 = .ok (.ifCond .eq 7, 3) := by decide +kernel
theorem dX0_openOnes_21 : decode cX0_openOnes 21 = .ok (.iconst 1, 1) := by decide +kernel
theorem dX0_openOnes_22 : decode cX0_openOnes 22 = .ok (.goto 4, 3) := by decide +kernel
theorem dX0_openOnes_25 : decode cX0_openOnes 25 = .ok (.iconst 0, 1) := by decide +kernel
theorem dX0_openOnes_26 : decode cX0_openOnes 26 = .ok (.iadd, 1) := by decide +kernel
theorem dX0_openOnes_27 : decode cX0_openOnes 27 = .ok (.istore_n 1, 1) := by decide +kernel
theorem dX0_openOnes_28 : decode cX0_openOnes 28 = .ok (.iinc 2 1, 3) := by decide +kernel
theorem dX0_openOnes_31 : decode cX0_openOnes 31 = .ok (.goto (-27), 3) := by decide +kernel
theorem dX0_openOnes_34 : decode cX0_openOnes 34 = .ok (.iload_n 1, 1) := by decide +kernel
theorem dX0_openOnes_35 : decode cX0_openOnes 35 = .ok (.ireturn, 1) := by decide +kernel
theorem dX0_roomsHeardIn_0 : decode cX0_roomsHeardIn 0 = .ok (.iconst 1, 1) := by decide +kernel
theorem dX0_roomsHeardIn_1 : decode cX0_roomsHeardIn 1 = .ok (.iload_n 1, 1) := by decide +kernel
theorem dX0_roomsHeardIn_2 : decode cX0_roomsHeardIn 2 = .ok (.ishl, 1) := by decide +kernel
theorem dX0_roomsHeardIn_3 : decode cX0_roomsHeardIn 3 = .ok (.istore_n 2, 1) := by decide +kernel
theorem dX0_roomsHeardIn_4 : decode cX0_roomsHeardIn 4 = .ok (.iconst 0, 1) := by decide +kernel
theorem dX0_roomsHeardIn_5 : decode cX0_roomsHeardIn 5 = .ok (.istore_n 3, 1) := by decide +kernel
theorem dX0_roomsHeardIn_6 : decode cX0_roomsHeardIn 6 = .ok (.iload_n 3, 1) := by decide +kernel
theorem dX0_roomsHeardIn_7 : decode cX0_roomsHeardIn 7 = .ok (.aload_n 0, 1) := by decide +kernel
theorem dX0_roomsHeardIn_8 : decode cX0_roomsHeardIn 8 = .ok (.getfield 21, 3) := by decide +kernel
theorem dX0_roomsHeardIn_11 : decode cX0_roomsHeardIn 11 = .ok (.if_icmp .ge 83, 3) := by decide +kernel
theorem dX0_roomsHeardIn_14 : decode cX0_roomsHeardIn 14 = .ok (.aload_n 0, 1) := by decide +kernel
theorem dX0_roomsHeardIn_15 : decode cX0_roomsHeardIn 15 = .ok (.getfield 18, 3) := by decide +kernel
theorem dX0_roomsHeardIn_18 : decode cX0_roomsHeardIn 18 = .ok (.iload_n 3, 1) := by decide +kernel
theorem dX0_roomsHeardIn_19 : decode cX0_roomsHeardIn 19 = .ok (.invokestatic 36, 3) := by decide +kernel
theorem dX0_roomsHeardIn_22 : decode cX0_roomsHeardIn 22 = .ok (.iconst 1, 1) := by decide +kernel
theorem dX0_roomsHeardIn_23 : decode cX0_roomsHeardIn 23 = .ok (.if_icmp .ne 28, 3) := by decide +kernel
theorem dX0_roomsHeardIn_26 : decode cX0_roomsHeardIn 26 = .ok (.aload_n 0, 1) := by decide +kernel
theorem dX0_roomsHeardIn_27 : decode cX0_roomsHeardIn 27 = .ok (.getfield 9, 3) := by decide +kernel
theorem dX0_roomsHeardIn_30 : decode cX0_roomsHeardIn 30 = .ok (.iload_n 3, 1) := by decide +kernel
theorem dX0_roomsHeardIn_31 : decode cX0_roomsHeardIn 31 = .ok (.invokestatic 36, 3) := by decide +kernel
theorem dX0_roomsHeardIn_34 : decode cX0_roomsHeardIn 34 = .ok (.iload_n 1, 1) := by decide +kernel
theorem dX0_roomsHeardIn_35 : decode cX0_roomsHeardIn 35 = .ok (.if_icmp .ne 16, 3) := by decide +kernel
theorem dX0_roomsHeardIn_38 : decode cX0_roomsHeardIn 38 = .ok (.iload_n 2, 1) := by decide +kernel
theorem dX0_roomsHeardIn_39 : decode cX0_roomsHeardIn 39 = .ok (.iconst 1, 1) := by decide +kernel
theorem dX0_roomsHeardIn_40 : decode cX0_roomsHeardIn 40 = .ok (.aload_n 0, 1) := by decide +kernel
theorem dX0_roomsHeardIn_41 : decode cX0_roomsHeardIn 41 = .ok (.getfield 15, 3) := by decide +kernel
theorem dX0_roomsHeardIn_44 : decode cX0_roomsHeardIn 44 = .ok (.iload_n 3, 1) := by decide +kernel
theorem dX0_roomsHeardIn_45 : decode cX0_roomsHeardIn 45 = .ok (.invokestatic 36, 3) := by decide +kernel
theorem dX0_roomsHeardIn_48 : decode cX0_roomsHeardIn 48 = .ok (.ishl, 1) := by decide +kernel
theorem dX0_roomsHeardIn_49 : decode cX0_roomsHeardIn 49 = .ok (.ior, 1) := by decide +kernel
theorem dX0_roomsHeardIn_50 : decode cX0_roomsHeardIn 50 = .ok (.istore_n 2, 1) := by decide +kernel
theorem dX0_roomsHeardIn_51 : decode cX0_roomsHeardIn 51 = .ok (.aload_n 0, 1) := by decide +kernel
theorem dX0_roomsHeardIn_52 : decode cX0_roomsHeardIn 52 = .ok (.getfield 18, 3) := by decide +kernel
theorem dX0_roomsHeardIn_55 : decode cX0_roomsHeardIn 55 = .ok (.iload_n 3, 1) := by decide +kernel
theorem dX0_roomsHeardIn_56 : decode cX0_roomsHeardIn 56 = .ok (.invokestatic 36, 3) := by decide +kernel
theorem dX0_roomsHeardIn_59 : decode cX0_roomsHeardIn 59 = .ok (.iconst 1, 1) := by decide +kernel
theorem dX0_roomsHeardIn_60 : decode cX0_roomsHeardIn 60 = .ok (.if_icmp .ne 28, 3) := by decide +kernel
theorem dX0_roomsHeardIn_63 : decode cX0_roomsHeardIn 63 = .ok (.aload_n 0, 1) := by decide +kernel
theorem dX0_roomsHeardIn_64 : decode cX0_roomsHeardIn 64 = .ok (.getfield 15, 3) := by decide +kernel
theorem dX0_roomsHeardIn_67 : decode cX0_roomsHeardIn 67 = .ok (.iload_n 3, 1) := by decide +kernel
theorem dX0_roomsHeardIn_68 : decode cX0_roomsHeardIn 68 = .ok (.invokestatic 36, 3) := by decide +kernel
theorem dX0_roomsHeardIn_71 : decode cX0_roomsHeardIn 71 = .ok (.iload_n 1, 1) := by decide +kernel
theorem dX0_roomsHeardIn_72 : decode cX0_roomsHeardIn 72 = .ok (.if_icmp .ne 16, 3) := by decide +kernel
theorem dX0_roomsHeardIn_75 : decode cX0_roomsHeardIn 75 = .ok (.iload_n 2, 1) := by decide +kernel
theorem dX0_roomsHeardIn_76 : decode cX0_roomsHeardIn 76 = .ok (.iconst 1, 1) := by decide +kernel
theorem dX0_roomsHeardIn_77 : decode cX0_roomsHeardIn 77 = .ok (.aload_n 0, 1) := by decide +kernel
theorem dX0_roomsHeardIn_78 : decode cX0_roomsHeardIn 78 = .ok (.getfield 9, 3) := by decide +kernel
theorem dX0_roomsHeardIn_81 : decode cX0_roomsHeardIn 81 = .ok (.iload_n 3, 1) := by decide +kernel
theorem dX0_roomsHeardIn_82 : decode cX0_roomsHeardIn 82 = .ok (.invokestatic 36, 3) := by decide +kernel
theorem dX0_roomsHeardIn_85 : decode cX0_roomsHeardIn 85 = .ok (.ishl, 1) := by decide +kernel
theorem dX0_roomsHeardIn_86 : decode cX0_roomsHeardIn 86 = .ok (.ior, 1) := by decide +kernel
theorem dX0_roomsHeardIn_87 : decode cX0_roomsHeardIn 87 = .ok (.istore_n 2, 1) := by decide +kernel
theorem dX0_roomsHeardIn_88 : decode cX0_roomsHeardIn 88 = .ok (.iinc 3 1, 3) := by decide +kernel
theorem dX0_roomsHeardIn_91 : decode cX0_roomsHeardIn 91 = .ok (.goto (-85), 3) := by decide +kernel
theorem dX0_roomsHeardIn_94 : decode cX0_roomsHeardIn 94 = .ok (.iload_n 2, 1) := by decide +kernel
theorem dX0_roomsHeardIn_95 : decode cX0_roomsHeardIn 95 = .ok (.ireturn, 1) := by decide +kernel
theorem dX0_takeAs_0 : decode cX0_takeAs 0 = .ok (.aload_n 1, 1) := by decide +kernel
theorem dX0_takeAs_1 : decode cX0_takeAs 1 = .ok (.getfield 9, 3) := by decide +kernel
theorem dX0_takeAs_4 : decode cX0_takeAs 4 = .ok (.aload_n 0, 1) := by decide +kernel
theorem dX0_takeAs_5 : decode cX0_takeAs 5 = .ok (.getfield 9, 3) := by decide +kernel
theorem dX0_takeAs_8 : decode cX0_takeAs 8 = .ok (.invokestatic 43, 3) := by decide +kernel
theorem dX0_takeAs_11 : decode cX0_takeAs 11 = .ok (.aload_n 1, 1) := by decide +kernel
theorem dX0_takeAs_12 : decode cX0_takeAs 12 = .ok (.getfield 15, 3) := by decide +kernel
theorem dX0_takeAs_15 : decode cX0_takeAs 15 = .ok (.aload_n 0, 1) := by decide +kernel
theorem dX0_takeAs_16 : decode cX0_takeAs 16 = .ok (.getfield 15, 3) := by decide +kernel
theorem dX0_takeAs_19 : decode cX0_takeAs 19 = .ok (.invokestatic 43, 3) := by decide +kernel
theorem dX0_takeAs_22 : decode cX0_takeAs 22 = .ok (.aload_n 1, 1) := by decide +kernel
theorem dX0_takeAs_23 : decode cX0_takeAs 23 = .ok (.getfield 18, 3) := by decide +kernel
theorem dX0_takeAs_26 : decode cX0_takeAs 26 = .ok (.aload_n 0, 1) := by decide +kernel
theorem dX0_takeAs_27 : decode cX0_takeAs 27 = .ok (.getfield 18, 3) := by decide +kernel
theorem dX0_takeAs_30 : decode cX0_takeAs 30 = .ok (.invokestatic 43, 3) := by decide +kernel
theorem dX0_takeAs_33 : decode cX0_takeAs 33 = .ok (.aload_n 0, 1) := by decide +kernel
theorem dX0_takeAs_34 : decode cX0_takeAs 34 = .ok (.aload_n 1, 1) := by decide +kernel
theorem dX0_takeAs_35 : decode cX0_takeAs 35 = .ok (.getfield 21, 3) := by decide +kernel
theorem dX0_takeAs_38 : decode cX0_takeAs 38 = .ok (.putfield 21, 3) := by decide +kernel
theorem dX0_takeAs_41 : decode cX0_takeAs 41 = .ok (.return_, 1) := by decide +kernel
theorem dX1_init_0 : decode cX1_init 0 = .ok (.aload_n 0, 1) := by decide +kernel
theorem dX1_init_1 : decode cX1_init 1 = .ok (.invokespecial 3, 3) := by decide +kernel
theorem dX1_init_4 : decode cX1_init 4 = .ok (.aload_n 0, 1) := by decide +kernel
theorem dX1_init_5 : decode cX1_init 5 = .ok (.bipush 6, 2) := by decide +kernel
theorem dX1_init_7 : decode cX1_init 7 = .ok (.newarray .int, 2) := by decide +kernel
theorem dX1_init_9 : decode cX1_init 9 = .ok (.putfield 9, 3) := by decide +kernel
theorem dX1_init_12 : decode cX1_init 12 = .ok (.aload_n 0, 1) := by decide +kernel
theorem dX1_init_13 : decode cX1_init 13 = .ok (.bipush 6, 2) := by decide +kernel
theorem dX1_init_15 : decode cX1_init 15 = .ok (.newarray .int, 2) := by decide +kernel
theorem dX1_init_17 : decode cX1_init 17 = .ok (.putfield 15, 3) := by decide +kernel
theorem dX1_init_20 : decode cX1_init 20 = .ok (.aload_n 0, 1) := by decide +kernel
theorem dX1_init_21 : decode cX1_init 21 = .ok (.bipush 6, 2) := by decide +kernel
theorem dX1_init_23 : decode cX1_init 23 = .ok (.newarray .int, 2) := by decide +kernel
theorem dX1_init_25 : decode cX1_init 25 = .ok (.putfield 18, 3) := by decide +kernel
theorem dX1_init_28 : decode cX1_init 28 = .ok (.aload_n 0, 1) := by decide +kernel
theorem dX1_init_29 : decode cX1_init 29 = .ok (.bipush 6, 2) := by decide +kernel
theorem dX1_init_31 : decode cX1_init 31 = .ok (.newarray .int, 2) := by decide +kernel
theorem dX1_init_33 : decode cX1_init 33 = .ok (.putfield 21, 3) := by decide +kernel
theorem dX1_init_36 : decode cX1_init 36 = .ok (.aload_n 0, 1) := by decide +kernel
theorem dX1_init_37 : decode cX1_init 37 = .ok (.bipush 6, 2) := by decide +kernel
theorem dX1_init_39 : decode cX1_init 39 = .ok (.newarray .int, 2) := by decide +kernel
theorem dX1_init_41 : decode cX1_init 41 = .ok (.putfield 24, 3) := by decide +kernel
theorem dX1_init_44 : decode cX1_init 44 = .ok (.aload_n 0, 1) := by decide +kernel
theorem dX1_init_45 : decode cX1_init 45 = .ok (.bipush 6, 2) := by decide +kernel
theorem dX1_init_47 : decode cX1_init 47 = .ok (.newarray .int, 2) := by decide +kernel
theorem dX1_init_49 : decode cX1_init 49 = .ok (.putfield 27, 3) := by decide +kernel
theorem dX1_init_52 : decode cX1_init 52 = .ok (.aload_n 0, 1) := by decide +kernel
theorem dX1_init_53 : decode cX1_init 53 = .ok (.bipush 6, 2) := by decide +kernel
theorem dX1_init_55 : decode cX1_init 55 = .ok (.newarray .int, 2) := by decide +kernel
theorem dX1_init_57 : decode cX1_init 57 = .ok (.putfield 30, 3) := by decide +kernel
theorem dX1_init_60 : decode cX1_init 60 = .ok (.aload_n 0, 1) := by decide +kernel
theorem dX1_init_61 : decode cX1_init 61 = .ok (.bipush 6, 2) := by decide +kernel
theorem dX1_init_63 : decode cX1_init 63 = .ok (.newarray .int, 2) := by decide +kernel
theorem dX1_init_65 : decode cX1_init 65 = .ok (.putfield 33, 3) := by decide +kernel
theorem dX1_init_68 : decode cX1_init 68 = .ok (.aload_n 0, 1) := by decide +kernel
theorem dX1_init_69 : decode cX1_init 69 = .ok (.iconst 0, 1) := by decide +kernel
theorem dX1_init_70 : decode cX1_init 70 = .ok (.putfield 36, 3) := by decide +kernel
theorem dX1_init_73 : decode cX1_init 73 = .ok (.return_, 1) := by decide +kernel
theorem dX1_has_0 : decode cX1_has 0 = .ok (.iload_n 1, 1) := by decide +kernel
theorem dX1_has_1 : decode cX1_has 1 = .ok (.ifCond .lt 15, 3) := by decide +kernel
theorem dX1_has_4 : decode cX1_has 4 = .ok (.iload_n 1, 1) := by decide +kernel
theorem dX1_has_5 : decode cX1_has 5 = .ok (.aload_n 0, 1) := by decide +kernel
theorem dX1_has_6 : decode cX1_has 6 = .ok (.getfield 36, 3) := by decide +kernel
theorem dX1_has_9 : decode cX1_has 9 = .ok (.if_icmp .ge 7, 3) := by decide +kernel
theorem dX1_has_12 : decode cX1_has 12 = .ok (.iconst 1, 1) := by decide +kernel
theorem dX1_has_13 : decode cX1_has 13 = .ok (.goto 4, 3) := by decide +kernel
theorem dX1_has_16 : decode cX1_has 16 = .ok (.iconst 0, 1) := by decide +kernel
theorem dX1_has_17 : decode cX1_has 17 = .ok (.ireturn, 1) := by decide +kernel
theorem dX1_add_0 : decode cX1_add 0 = .ok (.aload_n 0, 1) := by decide +kernel
theorem dX1_add_1 : decode cX1_add 1 = .ok (.getfield 36, 3) := by decide +kernel
theorem dX1_add_4 : decode cX1_add 4 = .ok (.bipush 6, 2) := by decide +kernel
theorem dX1_add_6 : decode cX1_add 6 = .ok (.if_icmp .ge 10, 3) := by decide +kernel
theorem dX1_add_9 : decode cX1_add 9 = .ok (.iload_n 2, 1) := by decide +kernel
theorem dX1_add_10 : decode cX1_add 10 = .ok (.invokestatic 40, 3) := by decide +kernel
theorem dX1_add_13 : decode cX1_add 13 = .ok (.ifCond .ne 5, 3) := by decide +kernel
theorem dX1_add_16 : decode cX1_add 16 = .ok (.iconst 0, 1) := by decide +kernel
theorem dX1_add_17 : decode cX1_add 17 = .ok (.ireturn, 1) := by decide +kernel
theorem dX1_add_18 : decode cX1_add 18 = .ok (.aload_n 0, 1) := by decide +kernel
theorem dX1_add_19 : decode cX1_add 19 = .ok (.getfield 9, 3) := by decide +kernel
theorem dX1_add_22 : decode cX1_add 22 = .ok (.aload_n 0, 1) := by decide +kernel
theorem dX1_add_23 : decode cX1_add 23 = .ok (.getfield 36, 3) := by decide +kernel
theorem dX1_add_26 : decode cX1_add 26 = .ok (.iload_n 1, 1) := by decide +kernel
theorem dX1_add_27 : decode cX1_add 27 = .ok (.invokestatic 44, 3) := by decide +kernel
theorem dX1_add_30 : decode cX1_add 30 = .ok (.aload_n 0, 1) := by decide +kernel
theorem dX1_add_31 : decode cX1_add 31 = .ok (.getfield 15, 3) := by decide +kernel
theorem dX1_add_34 : decode cX1_add 34 = .ok (.aload_n 0, 1) := by decide +kernel
theorem dX1_add_35 : decode cX1_add 35 = .ok (.getfield 36, 3) := by decide +kernel
theorem dX1_add_38 : decode cX1_add 38 = .ok (.iload_n 2, 1) := by decide +kernel
theorem dX1_add_39 : decode cX1_add 39 = .ok (.invokestatic 44, 3) := by decide +kernel
theorem dX1_add_42 : decode cX1_add 42 = .ok (.aload_n 0, 1) := by decide +kernel
theorem dX1_add_43 : decode cX1_add 43 = .ok (.getfield 18, 3) := by decide +kernel
theorem dX1_add_46 : decode cX1_add 46 = .ok (.aload_n 0, 1) := by decide +kernel
theorem dX1_add_47 : decode cX1_add 47 = .ok (.getfield 36, 3) := by decide +kernel
theorem dX1_add_50 : decode cX1_add 50 = .ok (.iload_n 3, 1) := by decide +kernel
theorem dX1_add_51 : decode cX1_add 51 = .ok (.invokestatic 44, 3) := by decide +kernel
theorem dX1_add_54 : decode cX1_add 54 = .ok (.aload_n 0, 1) := by decide +kernel
theorem dX1_add_55 : decode cX1_add 55 = .ok (.getfield 27, 3) := by decide +kernel
theorem dX1_add_58 : decode cX1_add 58 = .ok (.aload_n 0, 1) := by decide +kernel
theorem dX1_add_59 : decode cX1_add 59 = .ok (.getfield 36, 3) := by decide +kernel
theorem dX1_add_62 : decode cX1_add 62 = .ok (.iconst 0, 1) := by decide +kernel
theorem dX1_add_63 : decode cX1_add 63 = .ok (.invokestatic 44, 3) := by decide +kernel
theorem dX1_add_66 : decode cX1_add 66 = .ok (.aload_n 0, 1) := by decide +kernel
theorem dX1_add_67 : decode cX1_add 67 = .ok (.aload_n 0, 1) := by decide +kernel
theorem dX1_add_68 : decode cX1_add 68 = .ok (.getfield 36, 3) := by decide +kernel
theorem dX1_add_71 : decode cX1_add 71 = .ok (.invokevirtual 48, 3) := by decide +kernel
theorem dX1_add_74 : decode cX1_add 74 = .ok (.aload_n 0, 1) := by decide +kernel
theorem dX1_add_75 : decode cX1_add 75 = .ok (.dup, 1) := by decide +kernel
theorem dX1_add_76 : decode cX1_add 76 = .ok (.getfield 36, 3) := by decide +kernel
theorem dX1_add_79 : decode cX1_add 79 = .ok (.iconst 1, 1) := by decide +kernel
theorem dX1_add_80 : decode cX1_add 80 = .ok (.iadd, 1) := by decide +kernel
theorem dX1_add_81 : decode cX1_add 81 = .ok (.putfield 36, 3) := by decide +kernel
theorem dX1_add_84 : decode cX1_add 84 = .ok (.iconst 1, 1) := by decide +kernel
theorem dX1_add_85 : decode cX1_add 85 = .ok (.ireturn, 1) := by decide +kernel
theorem dX1_hasSong_0 : decode cX1_hasSong 0 = .ok (.aload_n 0, 1) := by decide +kernel
theorem dX1_hasSong_1 : decode cX1_hasSong 1 = .ok (.getfield 21, 3) := by decide +kernel
theorem dX1_hasSong_4 : decode cX1_hasSong 4 = .ok (.iload_n 1, 1) := by decide +kernel
theorem dX1_hasSong_5 : decode cX1_hasSong 5 = .ok (.invokestatic 52, 3) := by decide +kernel
theorem dX1_hasSong_8 : decode cX1_hasSong 8 = .ok (.bipush (-9), 2) := by decide +kernel
theorem dX1_hasSong_10 : decode cX1_hasSong 10 = .ok (.if_icmp .eq 7, 3) := by decide +kernel
theorem dX1_hasSong_13 : decode cX1_hasSong 13 = .ok (.iconst 1, 1) := by decide +kernel
theorem dX1_hasSong_14 : decode cX1_hasSong 14 = .ok (.goto 4, 3) := by decide +kernel
theorem dX1_hasSong_17 : decode cX1_hasSong 17 = .ok (.iconst 0, 1) := by decide +kernel
theorem dX1_hasSong_18 : decode cX1_hasSong 18 = .ok (.ireturn, 1) := by decide +kernel
theorem dX1_holders_0 : decode cX1_holders 0 = .ok (.iconst 0, 1) := by decide +kernel
theorem dX1_holders_1 : decode cX1_holders 1 = .ok (.istore_n 2, 1) := by decide +kernel
theorem dX1_holders_2 : decode cX1_holders 2 = .ok (.iconst 0, 1) := by decide +kernel
theorem dX1_holders_3 : decode cX1_holders 3 = .ok (.istore_n 3, 1) := by decide +kernel
theorem dX1_holders_4 : decode cX1_holders 4 = .ok (.iload_n 3, 1) := by decide +kernel
theorem dX1_holders_5 : decode cX1_holders 5 = .ok (.aload_n 0, 1) := by decide +kernel
theorem dX1_holders_6 : decode cX1_holders 6 = .ok (.getfield 36, 3) := by decide +kernel
theorem dX1_holders_9 : decode cX1_holders 9 = .ok (.if_icmp .ge 50, 3) := by decide +kernel
theorem dX1_holders_12 : decode cX1_holders 12 = .ok (.iload_n 2, 1) := by decide +kernel
theorem dX1_holders_13 : decode cX1_holders 13 = .ok (.iload_n 1, 1) := by decide +kernel
theorem dX1_holders_14 : decode cX1_holders 14 = .ok (.iconst (-1), 1) := by decide +kernel
theorem dX1_holders_15 : decode cX1_holders 15 = .ok (.if_icmp .ne 19, 3) := by decide +kernel
theorem dX1_holders_18 : decode cX1_holders 18 = .ok (.aload_n 0, 1) := by decide +kernel
theorem dX1_holders_19 : decode cX1_holders 19 = .ok (.iload_n 3, 1) := by decide +kernel
theorem dX1_holders_20 : decode cX1_holders 20 = .ok (.invokevirtual 56, 3) := by decide +kernel
theorem dX1_holders_23 : decode cX1_holders 23 = .ok (.ifCond .eq 7, 3) := by decide +kernel
theorem dX1_holders_26 : decode cX1_holders 26 = .ok (.iconst 1, 1) := by decide +kernel
theorem dX1_holders_27 : decode cX1_holders 27 = .ok (.goto 24, 3) := by decide +kernel
theorem dX1_holders_30 : decode cX1_holders 30 = .ok (.iconst 0, 1) := by decide +kernel
theorem dX1_holders_31 : decode cX1_holders 31 = .ok (.goto 20, 3) := by decide +kernel
theorem dX1_holders_34 : decode cX1_holders 34 = .ok (.aload_n 0, 1) := by decide +kernel
theorem dX1_holders_35 : decode cX1_holders 35 = .ok (.getfield 21, 3) := by decide +kernel
theorem dX1_holders_38 : decode cX1_holders 38 = .ok (.iload_n 3, 1) := by decide +kernel
theorem dX1_holders_39 : decode cX1_holders 39 = .ok (.invokestatic 52, 3) := by decide +kernel
theorem dX1_holders_42 : decode cX1_holders 42 = .ok (.iload_n 1, 1) := by decide +kernel
theorem dX1_holders_43 : decode cX1_holders 43 = .ok (.if_icmp .ne 7, 3) := by decide +kernel
theorem dX1_holders_46 : decode cX1_holders 46 = .ok (.iconst 1, 1) := by decide +kernel
theorem dX1_holders_47 : decode cX1_holders 47 = .ok (.goto 4, 3) := by decide +kernel
theorem dX1_holders_50 : decode cX1_holders 50 = .ok (.iconst 0, 1) := by decide +kernel
theorem dX1_holders_51 : decode cX1_holders 51 = .ok (.iadd, 1) := by decide +kernel
theorem dX1_holders_52 : decode cX1_holders 52 = .ok (.istore_n 2, 1) := by decide +kernel
theorem dX1_holders_53 : decode cX1_holders 53 = .ok (.iinc 3 1, 3) := by decide +kernel
theorem dX1_holders_56 : decode cX1_holders 56 = .ok (.goto (-52), 3) := by decide +kernel
theorem dX1_holders_59 : decode cX1_holders 59 = .ok (.iload_n 2, 1) := by decide +kernel
theorem dX1_holders_60 : decode cX1_holders 60 = .ok (.ireturn, 1) := by decide +kernel
theorem dX1_allStrength_0 : decode cX1_allStrength 0 = .ok (.iconst 0, 1) := by decide +kernel
theorem dX1_allStrength_1 : decode cX1_allStrength 1 = .ok (.istore_n 1, 1) := by decide +kernel
theorem dX1_allStrength_2 : decode cX1_allStrength 2 = .ok (.iconst 0, 1) := by decide +kernel
theorem dX1_allStrength_3 : decode cX1_allStrength 3 = .ok (.istore_n 2, 1) := by decide +kernel
theorem dX1_allStrength_4 : decode cX1_allStrength 4 = .ok (.iload_n 2, 1) := by decide +kernel
theorem dX1_allStrength_5 : decode cX1_allStrength 5 = .ok (.aload_n 0, 1) := by decide +kernel
theorem dX1_allStrength_6 : decode cX1_allStrength 6 = .ok (.getfield 36, 3) := by decide +kernel
theorem dX1_allStrength_9 : decode cX1_allStrength 9 = .ok (.if_icmp .ge 20, 3) := by decide +kernel
theorem dX1_allStrength_12 : decode cX1_allStrength 12 = .ok (.iload_n 1, 1) := by decide +kernel
theorem dX1_allStrength_13 : decode cX1_allStrength 13 = .ok (.aload_n 0, 1) := by decide +kernel
theorem dX1_allStrength_14 : decode cX1_allStrength 14 = .ok (.getfield 24, 3) := by decide +kernel
theorem dX1_allStrength_17 : decode cX1_allStrength 17 = .ok (.iload_n 2, 1) := by decide +kernel
theorem dX1_allStrength_18 : decode cX1_allStrength 18 = .ok (.invokestatic 52, 3) := by decide +kernel
theorem dX1_allStrength_21 : decode cX1_allStrength 21 = .ok (.iadd, 1) := by decide +kernel
theorem dX1_allStrength_22 : decode cX1_allStrength 22 = .ok (.istore_n 1, 1) := by decide +kernel
theorem dX1_allStrength_23 : decode cX1_allStrength 23 = .ok (.iinc 2 1, 3) := by decide +kernel
theorem dX1_allStrength_26 : decode cX1_allStrength 26 = .ok (.goto (-22), 3) := by decide +kernel
theorem dX1_allStrength_29 : decode cX1_allStrength 29 = .ok (.iload_n 1, 1) := by decide +kernel
theorem dX1_allStrength_30 : decode cX1_allStrength 30 = .ok (.ireturn, 1) := by decide +kernel
theorem dX1_bar_0 : decode cX1_bar 0 = .ok (.aload_n 0, 1) := by decide +kernel
theorem dX1_bar_1 : decode cX1_bar 1 = .ok (.getfield 9, 3) := by decide +kernel
theorem dX1_bar_4 : decode cX1_bar 4 = .ok (.iload_n 1, 1) := by decide +kernel
theorem dX1_bar_5 : decode cX1_bar 5 = .ok (.invokestatic 52, 3) := by decide +kernel
theorem dX1_bar_8 : decode cX1_bar 8 = .ok (.tableswitch 59 2 5 #[32, 35, 46, 57], 32) := by decide +kernel
theorem dX1_bar_40 : decode cX1_bar 40 = .ok (.bipush 99, 2) := by decide +kernel
theorem dX1_bar_42 : decode cX1_bar 42 = .ok (.ireturn, 1) := by decide +kernel
theorem dX1_bar_43 : decode cX1_bar 43 = .ok (.aload_n 0, 1) := by decide +kernel
theorem dX1_bar_44 : decode cX1_bar 44 = .ok (.getfield 18, 3) := by decide +kernel
theorem dX1_bar_47 : decode cX1_bar 47 = .ok (.iload_n 1, 1) := by decide +kernel
theorem dX1_bar_48 : decode cX1_bar 48 = .ok (.invokestatic 52, 3) := by decide +kernel
theorem dX1_bar_51 : decode cX1_bar 51 = .ok (.iconst 2, 1) := by decide +kernel
theorem dX1_bar_52 : decode cX1_bar 52 = .ok (.idiv, 1) := by decide +kernel
theorem dX1_bar_53 : decode cX1_bar 53 = .ok (.ireturn, 1) := by decide +kernel
theorem dX1_bar_54 : decode cX1_bar 54 = .ok (.aload_n 0, 1) := by decide +kernel
theorem dX1_bar_55 : decode cX1_bar 55 = .ok (.getfield 18, 3) := by decide +kernel
theorem dX1_bar_58 : decode cX1_bar 58 = .ok (.iload_n 1, 1) := by decide +kernel
theorem dX1_bar_59 : decode cX1_bar 59 = .ok (.invokestatic 52, 3) := by decide +kernel
theorem dX1_bar_62 : decode cX1_bar 62 = .ok (.iconst 3, 1) := by decide +kernel
theorem dX1_bar_63 : decode cX1_bar 63 = .ok (.iadd, 1) := by decide +kernel
theorem dX1_bar_64 : decode cX1_bar 64 = .ok (.ireturn, 1) := by decide +kernel
theorem dX1_bar_65 : decode cX1_bar 65 = .ok (.iconst 0, 1) := by decide +kernel
theorem dX1_bar_66 : decode cX1_bar 66 = .ok (.ireturn, 1) := by decide +kernel
theorem dX1_bar_67 : decode cX1_bar 67 = .ok (.aload_n 0, 1) := by decide +kernel
theorem dX1_bar_68 : decode cX1_bar 68 = .ok (.getfield 18, 3) := by decide +kernel
theorem dX1_bar_71 : decode cX1_bar 71 = .ok (.iload_n 1, 1) := by decide +kernel
theorem dX1_bar_72 : decode cX1_bar 72 = .ok (.invokestatic 52, 3) := by decide +kernel
theorem dX1_bar_75 : decode cX1_bar 75 = .ok (.ireturn, 1) := by decide +kernel
theorem dX1_hums_0 : decode cX1_hums 0 = .ok (.aload_n 0, 1) := by decide +kernel
theorem dX1_hums_1 : decode cX1_hums 1 = .ok (.getfield 9, 3) := by decide +kernel
theorem dX1_hums_4 : decode cX1_hums 4 = .ok (.iload_n 1, 1) := by decide +kernel
theorem dX1_hums_5 : decode cX1_hums 5 = .ok (.invokestatic 52, 3) := by decide +kernel
theorem dX1_hums_8 : decode cX1_hums 8 = .ok (.tableswitch 64 1 5 #[36, 64, 64, 62, 42], 36) := by decide +kernel
theorem dX1_hums_44 : decode cX1_hums 44 = .ok (.aload_n 0, 1) := by decide +kernel
theorem dX1_hums_45 : decode cX1_hums 45 = .ok (.iload_n 1, 1) := by decide +kernel
theorem dX1_hums_46 : decode cX1_hums 46 = .ok (.invokevirtual 56, 3) := by decide +kernel
theorem dX1_hums_49 : decode cX1_hums 49 = .ok (.ireturn, 1) := by decide +kernel
theorem dX1_hums_50 : decode cX1_hums 50 = .ok (.aload_n 0, 1) := by decide +kernel
theorem dX1_hums_51 : decode cX1_hums 51 = .ok (.iload_n 1, 1) := by decide +kernel
theorem dX1_hums_52 : decode cX1_hums 52 = .ok (.invokevirtual 56, 3) := by decide +kernel
theorem dX1_hums_55 : decode cX1_hums 55 = .ok (.ifCond .eq 13, 3) := by decide +kernel
theorem dX1_hums_58 : decode cX1_hums 58 = .ok (.iload_n 3, 1) := by decide +kernel
theorem dX1_hums_59 : decode cX1_hums 59 = .ok (.iconst 2, 1) := by decide +kernel
theorem dX1_hums_60 : decode cX1_hums 60 = .ok (.irem, 1) := by decide +kernel
theorem dX1_hums_61 : decode cX1_hums 61 = .ok (.ifCond .ne 7, 3) := by decide +kernel
theorem dX1_hums_64 : decode cX1_hums 64 = .ok (.iconst 1, 1) := by decide +kernel
theorem dX1_hums_65 : decode cX1_hums 65 = .ok (.goto 4, 3) := by decide +kernel
theorem dX1_hums_68 : decode cX1_hums 68 = .ok (.iconst 0, 1) := by decide +kernel
theorem dX1_hums_69 : decode cX1_hums 69 = .ok (.ireturn, 1) := by decide +kernel
theorem dX1_hums_70 : decode cX1_hums 70 = .ok (.iconst 0, 1) := by decide +kernel
theorem dX1_hums_71 : decode cX1_hums 71 = .ok (.ireturn, 1) := by decide +kernel
theorem dX1_hums_72 : decode cX1_hums 72 = .ok (.aload_n 0, 1) := by decide +kernel
theorem dX1_hums_73 : decode cX1_hums 73 = .ok (.getfield 24, 3) := by decide +kernel
theorem dX1_hums_76 : decode cX1_hums 76 = .ok (.iload_n 1, 1) := by decide +kernel
theorem dX1_hums_77 : decode cX1_hums 77 = .ok (.invokestatic 52, 3) := by decide +kernel
theorem dX1_hums_80 : decode cX1_hums 80 = .ok (.iload_n 2, 1) := by decide +kernel
theorem dX1_hums_81 : decode cX1_hums 81 = .ok (.if_icmp .lt 7, 3) := by decide +kernel
theorem dX1_hums_84 : decode cX1_hums 84 = .ok (.iconst 1, 1) := by decide +kernel
theorem dX1_hums_85 : decode cX1_hums 85 = .ok (.goto 4, 3) := by decide +kernel
theorem dX1_hums_88 : decode cX1_hums 88 = .ok (.iconst 0, 1) := by decide +kernel
theorem dX1_hums_89 : decode cX1_hums 89 = .ok (.ireturn, 1) := by decide +kernel
theorem dX1_receive_0 : decode cX1_receive 0 = .ok (.aload_n 0, 1) := by decide +kernel
theorem dX1_receive_1 : decode cX1_receive 1 = .ok (.getfield 21, 3) := by decide +kernel
theorem dX1_receive_4 : decode cX1_receive 4 = .ok (.iload_n 1, 1) := by decide +kernel
theorem dX1_receive_5 : decode cX1_receive 5 = .ok (.iload_n 2, 1) := by decide +kernel
theorem dX1_receive_6 : decode cX1_receive 6 = .ok (.invokestatic 44, 3) := by decide +kernel
theorem dX1_receive_9 : decode cX1_receive 9 = .ok (.aload_n 0, 1) := by decide +kernel
theorem dX1_receive_10 : decode cX1_receive 10 = .ok (.getfield 24, 3) := by decide +kernel
theorem dX1_receive_13 : decode cX1_receive 13 = .ok (.iload_n 1, 1) := by decide +kernel
theorem dX1_receive_14 : decode cX1_receive 14 = .ok (.iload_n 3, 1) := by decide +kernel
theorem dX1_receive_15 : decode cX1_receive 15 = .ok (.invokestatic 44, 3) := by decide +kernel
theorem dX1_receive_18 : decode cX1_receive 18 = .ok (.aload_n 0, 1) := by decide +kernel
theorem dX1_receive_19 : decode cX1_receive 19 = .ok (.getfield 30, 3) := by decide +kernel
theorem dX1_receive_22 : decode cX1_receive 22 = .ok (.iload_n 1, 1) := by decide +kernel
theorem dX1_receive_23 : decode cX1_receive 23 = .ok (.iload 4, 2) := by decide +kernel
theorem dX1_receive_25 : decode cX1_receive 25 = .ok (.invokestatic 44, 3) := by decide +kernel
theorem dX1_receive_28 : decode cX1_receive 28 = .ok (.aload_n 0, 1) := by decide +kernel
theorem dX1_receive_29 : decode cX1_receive 29 = .ok (.getfield 33, 3) := by decide +kernel
theorem dX1_receive_32 : decode cX1_receive 32 = .ok (.iload_n 1, 1) := by decide +kernel
theorem dX1_receive_33 : decode cX1_receive 33 = .ok (.iload 5, 2) := by decide +kernel
theorem dX1_receive_35 : decode cX1_receive 35 = .ok (.invokestatic 44, 3) := by decide +kernel
theorem dX1_receive_38 : decode cX1_receive 38 = .ok (.return_, 1) := by decide +kernel
theorem dX1_lose_0 : decode cX1_lose 0 = .ok (.aload_n 0, 1) := by decide +kernel
theorem dX1_lose_1 : decode cX1_lose 1 = .ok (.getfield 21, 3) := by decide +kernel
theorem dX1_lose_4 : decode cX1_lose 4 = .ok (.iload_n 1, 1) := by decide +kernel
theorem dX1_lose_5 : decode cX1_lose 5 = .ok (.bipush (-9), 2) := by decide +kernel
theorem dX1_lose_7 : decode cX1_lose 7 = .ok (.invokestatic 44, 3) := by decide +kernel
theorem dX1_lose_10 : decode cX1_lose 10 = .ok (.aload_n 0, 1) := by decide +kernel
theorem dX1_lose_11 : decode cX1_lose 11 = .ok (.getfield 24, 3) := by decide +kernel
theorem dX1_lose_14 : decode cX1_lose 14 = .ok (.iload_n 1, 1) := by decide +kernel
theorem dX1_lose_15 : decode cX1_lose 15 = .ok (.iconst 0, 1) := by decide +kernel
theorem dX1_lose_16 : decode cX1_lose 16 = .ok (.invokestatic 44, 3) := by decide +kernel
theorem dX1_lose_19 : decode cX1_lose 19 = .ok (.aload_n 0, 1) := by decide +kernel
theorem dX1_lose_20 : decode cX1_lose 20 = .ok (.getfield 30, 3) := by decide +kernel
theorem dX1_lose_23 : decode cX1_lose 23 = .ok (.iload_n 1, 1) := by decide +kernel
theorem dX1_lose_24 : decode cX1_lose 24 = .ok (.bipush (-9), 2) := by decide +kernel
theorem dX1_lose_26 : decode cX1_lose 26 = .ok (.invokestatic 44, 3) := by decide +kernel
theorem dX1_lose_29 : decode cX1_lose 29 = .ok (.aload_n 0, 1) := by decide +kernel
theorem dX1_lose_30 : decode cX1_lose 30 = .ok (.getfield 33, 3) := by decide +kernel
theorem dX1_lose_33 : decode cX1_lose 33 = .ok (.iload_n 1, 1) := by decide +kernel
theorem dX1_lose_34 : decode cX1_lose 34 = .ok (.bipush (-9), 2) := by decide +kernel
theorem dX1_lose_36 : decode cX1_lose 36 = .ok (.invokestatic 44, 3) := by decide +kernel
theorem dX1_lose_39 : decode cX1_lose 39 = .ok (.return_, 1) := by decide +kernel
theorem dX1_weaken_0 : decode cX1_weaken 0 = .ok (.bipush 60, 2) := by decide +kernel
theorem dX1_weaken_2 : decode cX1_weaken 2 = .ok (.aload_n 0, 1) := by decide +kernel
theorem dX1_weaken_3 : decode cX1_weaken 3 = .ok (.getfield 24, 3) := by decide +kernel
theorem dX1_weaken_6 : decode cX1_weaken 6 = .ok (.iload_n 1, 1) := by decide +kernel
theorem dX1_weaken_7 : decode cX1_weaken 7 = .ok (.invokestatic 52, 3) := by decide +kernel
theorem dX1_weaken_10 : decode cX1_weaken 10 = .ok (.iload_n 2, 1) := by decide +kernel
theorem dX1_weaken_11 : decode cX1_weaken 11 = .ok (.isub, 1) := by decide +kernel
theorem dX1_weaken_12 : decode cX1_weaken 12 = .ok (.invokestatic 59, 3) := by decide +kernel
theorem dX1_weaken_15 : decode cX1_weaken 15 = .ok (.istore_n 3, 1) := by decide +kernel
theorem dX1_weaken_16 : decode cX1_weaken 16 = .ok (.iload_n 3, 1) := by decide +kernel
theorem dX1_weaken_17 : decode cX1_weaken 17 = .ok (.ifCond .le 15, 3) := by decide +kernel
theorem dX1_weaken_20 : decode cX1_weaken 20 = .ok (.aload_n 0, 1) := by decide +kernel
theorem dX1_weaken_21 : decode cX1_weaken 21 = .ok (.getfield 24, 3) := by decide +kernel
theorem dX1_weaken_24 : decode cX1_weaken 24 = .ok (.iload_n 1, 1) := by decide +kernel
theorem dX1_weaken_25 : decode cX1_weaken 25 = .ok (.iload_n 3, 1) := by decide +kernel
theorem dX1_weaken_26 : decode cX1_weaken 26 = .ok (.invokestatic 44, 3) := by decide +kernel
theorem dX1_weaken_29 : decode cX1_weaken 29 = .ok (.goto 8, 3) := by decide +kernel
theorem dX1_weaken_32 : decode cX1_weaken 32 = .ok (.aload_n 0, 1) := by decide +kernel
theorem dX1_weaken_33 : decode cX1_weaken 33 = .ok (.iload_n 1, 1) := by decide +kernel
theorem dX1_weaken_34 : decode cX1_weaken 34 = .ok (.invokevirtual 48, 3) := by decide +kernel
theorem dX1_weaken_37 : decode cX1_weaken 37 = .ok (.return_, 1) := by decide +kernel
theorem dX1_chew_0 : decode cX1_chew 0 = .ok (.aload_n 0, 1) := by decide +kernel
theorem dX1_chew_1 : decode cX1_chew 1 = .ok (.getfield 27, 3) := by decide +kernel
theorem dX1_chew_4 : decode cX1_chew 4 = .ok (.iload_n 1, 1) := by decide +kernel
theorem dX1_chew_5 : decode cX1_chew 5 = .ok (.iconst 0, 1) := by decide +kernel
theorem dX1_chew_6 : decode cX1_chew 6 = .ok (.aload_n 0, 1) := by decide +kernel
theorem dX1_chew_7 : decode cX1_chew 7 = .ok (.getfield 27, 3) := by decide +kernel
theorem dX1_chew_10 : decode cX1_chew 10 = .ok (.iload_n 1, 1) := by decide +kernel
theorem dX1_chew_11 : decode cX1_chew 11 = .ok (.invokestatic 52, 3) := by decide +kernel
theorem dX1_chew_14 : decode cX1_chew 14 = .ok (.iconst 1, 1) := by decide +kernel
theorem dX1_chew_15 : decode cX1_chew 15 = .ok (.isub, 1) := by decide +kernel
theorem dX1_chew_16 : decode cX1_chew 16 = .ok (.invokestatic 65, 3) := by decide +kernel
theorem dX1_chew_19 : decode cX1_chew 19 = .ok (.invokestatic 44, 3) := by decide +kernel
theorem dX1_chew_22 : decode cX1_chew 22 = .ok (.return_, 1) := by decide +kernel
theorem dX1_treat_0 : decode cX1_treat 0 = .ok (.iload_n 2, 1) := by decide +kernel
theorem dX1_treat_1 : decode cX1_treat 1 = .ok (.tableswitch 75 0 2 #[27, 54, 63], 27) := by decide +kernel
theorem dX1_treat_28 : decode cX1_treat 28 = .ok (.aload_n 0, 1) := by decide +kernel
theorem dX1_treat_29 : decode cX1_treat 29 = .ok (.iload_n 1, 1) := by decide +kernel
theorem dX1_treat_30 : decode cX1_treat 30 = .ok (.aload_n 0, 1) := by decide +kernel
theorem dX1_treat_31 : decode cX1_treat 31 = .ok (.getfield 24, 3) := by decide +kernel
theorem dX1_treat_34 : decode cX1_treat 34 = .ok (.iload_n 1, 1) := by decide +kernel
theorem dX1_treat_35 : decode cX1_treat 35 = .ok (.invokestatic 52, 3) := by decide +kernel
theorem dX1_treat_38 : decode cX1_treat 38 = .ok (.aload_n 0, 1) := by decide +kernel
theorem dX1_treat_39 : decode cX1_treat 39 = .ok (.getfield 24, 3) := by decide +kernel
theorem dX1_treat_42 : decode cX1_treat 42 = .ok (.iload_n 1, 1) := by decide +kernel
theorem dX1_treat_43 : decode cX1_treat 43 = .ok (.invokestatic 52, 3) := by decide +kernel
theorem dX1_treat_46 : decode cX1_treat 46 = .ok (.iconst 2, 1) := by decide +kernel
theorem dX1_treat_47 : decode cX1_treat 47 = .ok (.idiv, 1) := by decide +kernel
theorem dX1_treat_48 : decode cX1_treat 48 = .ok (.isub, 1) := by decide +kernel
theorem dX1_treat_49 : decode cX1_treat 49 = .ok (.invokevirtual 68, 3) := by decide +kernel
theorem dX1_treat_52 : decode cX1_treat 52 = .ok (.goto 24, 3) := by decide +kernel
theorem dX1_treat_55 : decode cX1_treat 55 = .ok (.aload_n 0, 1) := by decide +kernel
theorem dX1_treat_56 : decode cX1_treat 56 = .ok (.iload_n 1, 1) := by decide +kernel
theorem dX1_treat_57 : decode cX1_treat 57 = .ok (.iconst 4, 1) := by decide +kernel
theorem dX1_treat_58 : decode cX1_treat 58 = .ok (.invokevirtual 68, 3) := by decide +kernel
theorem dX1_treat_61 : decode cX1_treat 61 = .ok (.goto 15, 3) := by decide +kernel
theorem dX1_treat_64 : decode cX1_treat 64 = .ok (.aload_n 0, 1) := by decide +kernel
theorem dX1_treat_65 : decode cX1_treat 65 = .ok (.getfield 27, 3) := by decide +kernel
theorem dX1_treat_68 : decode cX1_treat 68 = .ok (.iload_n 1, 1) := by decide +kernel
theorem dX1_treat_69 : decode cX1_treat 69 = .ok (.iconst 3, 1) := by decide +kernel
theorem dX1_treat_70 : decode cX1_treat 70 = .ok (.invokestatic 44, 3) := by decide +kernel
theorem dX1_treat_73 : decode cX1_treat 73 = .ok (.goto 3, 3) := by decide +kernel
theorem dX1_treat_76 : decode cX1_treat 76 = .ok (.return_, 1) := by decide +kernel
theorem dX1_changePlaces_0 : decode cX1_changePlaces 0 = .ok (.aload_n 0, 1) := by decide +kernel
theorem dX1_changePlaces_1 : decode cX1_changePlaces 1 = .ok (.getfield 15, 3) := by decide +kernel
theorem dX1_changePlaces_4 : decode cX1_changePlaces 4 = .ok (.iload_n 1, 1) := by decide +kernel
theorem dX1_changePlaces_5 : decode cX1_changePlaces 5 = .ok (.invokestatic 52, 3) := by decide +kernel
theorem dX1_changePlaces_8 : decode cX1_changePlaces 8 = .ok (.istore_n 3, 1) := by decide +kernel
theorem dX1_changePlaces_9 : decode cX1_changePlaces 9 = .ok (.aload_n 0, 1) := by decide +kernel
theorem dX1_changePlaces_10 : decode cX1_changePlaces 10 = .ok (.getfield 15, 3) := by decide +kernel
theorem dX1_changePlaces_13 : decode cX1_changePlaces 13 = .ok (.iload_n 1, 1) := by decide +kernel
theorem dX1_changePlaces_14 : decode cX1_changePlaces 14 = .ok (.aload_n 0, 1) := by decide +kernel
theorem dX1_changePlaces_15 : decode cX1_changePlaces 15 = .ok (.getfield 15, 3) := by decide +kernel
theorem dX1_changePlaces_18 : decode cX1_changePlaces 18 = .ok (.iload_n 2, 1) := by decide +kernel
theorem dX1_changePlaces_19 : decode cX1_changePlaces 19 = .ok (.invokestatic 52, 3) := by decide +kernel
theorem dX1_changePlaces_22 : decode cX1_changePlaces 22 = .ok (.invokestatic 44, 3) := by decide +kernel
theorem dX1_changePlaces_25 : decode cX1_changePlaces 25 = .ok (.aload_n 0, 1) := by decide +kernel
theorem dX1_changePlaces_26 : decode cX1_changePlaces 26 = .ok (.getfield 15, 3) := by decide +kernel
theorem dX1_changePlaces_29 : decode cX1_changePlaces 29 = .ok (.iload_n 2, 1) := by decide +kernel
theorem dX1_changePlaces_30 : decode cX1_changePlaces 30 = .ok (.iload_n 3, 1) := by decide +kernel
theorem dX1_changePlaces_31 : decode cX1_changePlaces 31 = .ok (.invokestatic 44, 3) := by decide +kernel
theorem dX1_changePlaces_34 : decode cX1_changePlaces 34 = .ok (.return_, 1) := by decide +kernel
theorem dX1_takeAs_0 : decode cX1_takeAs 0 = .ok (.aload_n 1, 1) := by decide +kernel
theorem dX1_takeAs_1 : decode cX1_takeAs 1 = .ok (.getfield 9, 3) := by decide +kernel
theorem dX1_takeAs_4 : decode cX1_takeAs 4 = .ok (.aload_n 0, 1) := by decide +kernel
theorem dX1_takeAs_5 : decode cX1_takeAs 5 = .ok (.getfield 9, 3) := by decide +kernel
theorem dX1_takeAs_8 : decode cX1_takeAs 8 = .ok (.invokestatic 72, 3) := by decide +kernel
theorem dX1_takeAs_11 : decode cX1_takeAs 11 = .ok (.aload_n 1, 1) := by decide +kernel
theorem dX1_takeAs_12 : decode cX1_takeAs 12 = .ok (.getfield 15, 3) := by decide +kernel
theorem dX1_takeAs_15 : decode cX1_takeAs 15 = .ok (.aload_n 0, 1) := by decide +kernel
theorem dX1_takeAs_16 : decode cX1_takeAs 16 = .ok (.getfield 15, 3) := by decide +kernel
theorem dX1_takeAs_19 : decode cX1_takeAs 19 = .ok (.invokestatic 72, 3) := by decide +kernel
theorem dX1_takeAs_22 : decode cX1_takeAs 22 = .ok (.aload_n 1, 1) := by decide +kernel
theorem dX1_takeAs_23 : decode cX1_takeAs 23 = .ok (.getfield 18, 3) := by decide +kernel
theorem dX1_takeAs_26 : decode cX1_takeAs 26 = .ok (.aload_n 0, 1) := by decide +kernel
theorem dX1_takeAs_27 : decode cX1_takeAs 27 = .ok (.getfield 18, 3) := by decide +kernel
theorem dX1_takeAs_30 : decode cX1_takeAs 30 = .ok (.invokestatic 72, 3) := by decide +kernel
theorem dX1_takeAs_33 : decode cX1_takeAs 33 = .ok (.aload_n 1, 1) := by decide +kernel
theorem dX1_takeAs_34 : decode cX1_takeAs 34 = .ok (.getfield 21, 3) := by decide +kernel
theorem dX1_takeAs_37 : decode cX1_takeAs 37 = .ok (.aload_n 0, 1) := by decide +kernel
theorem dX1_takeAs_38 : decode cX1_takeAs 38 = .ok (.getfield 21, 3) := by decide +kernel
theorem dX1_takeAs_41 : decode cX1_takeAs 41 = .ok (.invokestatic 72, 3) := by decide +kernel
theorem dX1_takeAs_44 : decode cX1_takeAs 44 = .ok (.aload_n 1, 1) := by decide +kernel
theorem dX1_takeAs_45 : decode cX1_takeAs 45 = .ok (.getfield 24, 3) := by decide +kernel
theorem dX1_takeAs_48 : decode cX1_takeAs 48 = .ok (.aload_n 0, 1) := by decide +kernel
theorem dX1_takeAs_49 : decode cX1_takeAs 49 = .ok (.getfield 24, 3) := by decide +kernel
theorem dX1_takeAs_52 : decode cX1_takeAs 52 = .ok (.invokestatic 72, 3) := by decide +kernel
theorem dX1_takeAs_55 : decode cX1_takeAs 55 = .ok (.aload_n 1, 1) := by decide +kernel
theorem dX1_takeAs_56 : decode cX1_takeAs 56 = .ok (.getfield 27, 3) := by decide +kernel
theorem dX1_takeAs_59 : decode cX1_takeAs 59 = .ok (.aload_n 0, 1) := by decide +kernel
theorem dX1_takeAs_60 : decode cX1_takeAs 60 = .ok (.getfield 27, 3) := by decide +kernel
theorem dX1_takeAs_63 : decode cX1_takeAs 63 = .ok (.invokestatic 72, 3) := by decide +kernel
theorem dX1_takeAs_66 : decode cX1_takeAs 66 = .ok (.aload_n 0, 1) := by decide +kernel
theorem dX1_takeAs_67 : decode cX1_takeAs 67 = .ok (.aload_n 1, 1) := by decide +kernel
theorem dX1_takeAs_68 : decode cX1_takeAs 68 = .ok (.getfield 36, 3) := by decide +kernel
theorem dX1_takeAs_71 : decode cX1_takeAs 71 = .ok (.putfield 36, 3) := by decide +kernel
theorem dX1_takeAs_74 : decode cX1_takeAs 74 = .ok (.iconst 0, 1) := by decide +kernel
theorem dX1_takeAs_75 : decode cX1_takeAs 75 = .ok (.istore_n 2, 1) := by decide +kernel
theorem dX1_takeAs_76 : decode cX1_takeAs 76 = .ok (.iload_n 2, 1) := by decide +kernel
theorem dX1_takeAs_77 : decode cX1_takeAs 77 = .ok (.aload_n 0, 1) := by decide +kernel
theorem dX1_takeAs_78 : decode cX1_takeAs 78 = .ok (.getfield 36, 3) := by decide +kernel
theorem dX1_takeAs_81 : decode cX1_takeAs 81 = .ok (.if_icmp .ge 53, 3) := by decide +kernel
theorem dX1_takeAs_84 : decode cX1_takeAs 84 = .ok (.aload_n 0, 1) := by decide +kernel
theorem dX1_takeAs_85 : decode cX1_takeAs 85 = .ok (.getfield 30, 3) := by decide +kernel
theorem dX1_takeAs_88 : decode cX1_takeAs 88 = .ok (.iload_n 2, 1) := by decide +kernel
theorem dX1_takeAs_89 : decode cX1_takeAs 89 = .ok (.aload_n 0, 1) := by decide +kernel
theorem dX1_takeAs_90 : decode cX1_takeAs 90 = .ok (.iload_n 2, 1) := by decide +kernel
theorem dX1_takeAs_91 : decode cX1_takeAs 91 = .ok (.invokevirtual 56, 3) := by decide +kernel
theorem dX1_takeAs_94 : decode cX1_takeAs 94 = .ok (.ifCond .eq 7, 3) := by decide +kernel
theorem dX1_takeAs_97 : decode cX1_takeAs 97 = .ok (.iload_n 2, 1) := by decide +kernel
theorem dX1_takeAs_98 : decode cX1_takeAs 98 = .ok (.goto 5, 3) := by decide +kernel
theorem dX1_takeAs_101 : decode cX1_takeAs 101 = .ok (.bipush (-9), 2) := by decide +kernel
theorem dX1_takeAs_103 : decode cX1_takeAs 103 = .ok (.invokestatic 44, 3) := by decide +kernel
theorem dX1_takeAs_106 : decode cX1_takeAs 106 = .ok (.aload_n 0, 1) := by decide +kernel
theorem dX1_takeAs_107 : decode cX1_takeAs 107 = .ok (.getfield 33, 3) := by decide +kernel
theorem dX1_takeAs_110 : decode cX1_takeAs 110 = .ok (.iload_n 2, 1) := by decide +kernel
theorem dX1_takeAs_111 : decode cX1_takeAs 111 = .ok (.aload_n 0, 1) := by decide +kernel
theorem dX1_takeAs_112 : decode cX1_takeAs 112 = .ok (.iload_n 2, 1) := by decide +kernel
theorem dX1_takeAs_113 : decode cX1_takeAs 113 = .ok (.invokevirtual 56, 3) := by decide +kernel
theorem dX1_takeAs_116 : decode cX1_takeAs 116 = .ok (.ifCond .eq 7, 3) := by decide +kernel
theorem dX1_takeAs_119 : decode cX1_takeAs 119 = .ok (.iload_n 2, 1) := by decide +kernel
theorem dX1_takeAs_120 : decode cX1_takeAs 120 = .ok (.goto 5, 3) := by decide +kernel
theorem dX1_takeAs_123 : decode cX1_takeAs 123 = .ok (.bipush (-9), 2) := by decide +kernel
theorem dX1_takeAs_125 : decode cX1_takeAs 125 = .ok (.invokestatic 44, 3) := by decide +kernel
theorem dX1_takeAs_128 : decode cX1_takeAs 128 = .ok (.iinc 2 1, 3) := by decide +kernel
theorem dX1_takeAs_131 : decode cX1_takeAs 131 = .ok (.goto (-55), 3) := by decide +kernel
theorem dX1_takeAs_134 : decode cX1_takeAs 134 = .ok (.return_, 1) := by decide +kernel
theorem dX2_init_0 : decode cX2_init 0 = .ok (.aload_n 0, 1) := by decide +kernel
theorem dX2_init_1 : decode cX2_init 1 = .ok (.invokespecial 3, 3) := by decide +kernel
theorem dX2_init_4 : decode cX2_init 4 = .ok (.aload_n 0, 1) := by decide +kernel
theorem dX2_init_5 : decode cX2_init 5 = .ok (.new 9, 3) := by decide +kernel
theorem dX2_init_8 : decode cX2_init 8 = .ok (.dup, 1) := by decide +kernel
theorem dX2_init_9 : decode cX2_init 9 = .ok (.invokespecial 11, 3) := by decide +kernel
theorem dX2_init_12 : decode cX2_init 12 = .ok (.putfield 12, 3) := by decide +kernel
theorem dX2_init_15 : decode cX2_init 15 = .ok (.aload_n 0, 1) := by decide +kernel
theorem dX2_init_16 : decode cX2_init 16 = .ok (.new 18, 3) := by decide +kernel
theorem dX2_init_19 : decode cX2_init 19 = .ok (.dup, 1) := by decide +kernel
theorem dX2_init_20 : decode cX2_init 20 = .ok (.invokespecial 20, 3) := by decide +kernel
theorem dX2_init_23 : decode cX2_init 23 = .ok (.putfield 21, 3) := by decide +kernel
theorem dX2_init_26 : decode cX2_init 26 = .ok (.aload_n 0, 1) := by decide +kernel
theorem dX2_init_27 : decode cX2_init 27 = .ok (.new 25, 3) := by decide +kernel
theorem dX2_init_30 : decode cX2_init 30 = .ok (.dup, 1) := by decide +kernel
theorem dX2_init_31 : decode cX2_init 31 = .ok (.invokespecial 27, 3) := by decide +kernel
theorem dX2_init_34 : decode cX2_init 34 = .ok (.putfield 28, 3) := by decide +kernel
theorem dX2_init_37 : decode cX2_init 37 = .ok (.aload_n 0, 1) := by decide +kernel
theorem dX2_init_38 : decode cX2_init 38 = .ok (.iconst 0, 1) := by decide +kernel
theorem dX2_init_39 : decode cX2_init 39 = .ok (.putfield 32, 3) := by decide +kernel
theorem dX2_init_42 : decode cX2_init 42 = .ok (.aload_n 0, 1) := by decide +kernel
theorem dX2_init_43 : decode cX2_init 43 = .ok (.bipush 6, 2) := by decide +kernel
theorem dX2_init_45 : decode cX2_init 45 = .ok (.putfield 36, 3) := by decide +kernel
theorem dX2_init_48 : decode cX2_init 48 = .ok (.aload_n 0, 1) := by decide +kernel
theorem dX2_init_49 : decode cX2_init 49 = .ok (.bipush 6, 2) := by decide +kernel
theorem dX2_init_51 : decode cX2_init 51 = .ok (.newarray .int, 2) := by decide +kernel
theorem dX2_init_53 : decode cX2_init 53 = .ok (.putfield 39, 3) := by decide +kernel
theorem dX2_init_56 : decode cX2_init 56 = .ok (.aload_n 0, 1) := by decide +kernel
theorem dX2_init_57 : decode cX2_init 57 = .ok (.bipush 6, 2) := by decide +kernel
theorem dX2_init_59 : decode cX2_init 59 = .ok (.newarray .int, 2) := by decide +kernel
theorem dX2_init_61 : decode cX2_init 61 = .ok (.putfield 43, 3) := by decide +kernel
theorem dX2_init_64 : decode cX2_init 64 = .ok (.aload_n 0, 1) := by decide +kernel
theorem dX2_init_65 : decode cX2_init 65 = .ok (.bipush 6, 2) := by decide +kernel
theorem dX2_init_67 : decode cX2_init 67 = .ok (.newarray .int, 2) := by decide +kernel
theorem dX2_init_69 : decode cX2_init 69 = .ok (.putfield 46, 3) := by decide +kernel
theorem dX2_init_72 : decode cX2_init 72 = .ok (.aload_n 0, 1) := by decide +kernel
theorem dX2_init_73 : decode cX2_init 73 = .ok (.bipush 6, 2) := by decide +kernel
theorem dX2_init_75 : decode cX2_init 75 = .ok (.newarray .int, 2) := by decide +kernel
theorem dX2_init_77 : decode cX2_init 77 = .ok (.putfield 49, 3) := by decide +kernel
theorem dX2_init_80 : decode cX2_init 80 = .ok (.aload_n 0, 1) := by decide +kernel
theorem dX2_init_81 : decode cX2_init 81 = .ok (.bipush 6, 2) := by decide +kernel
theorem dX2_init_83 : decode cX2_init 83 = .ok (.newarray .int, 2) := by decide +kernel
theorem dX2_init_85 : decode cX2_init 85 = .ok (.putfield 52, 3) := by decide +kernel
theorem dX2_init_88 : decode cX2_init 88 = .ok (.return_, 1) := by decide +kernel
theorem dX2_takeAs_0 : decode cX2_takeAs 0 = .ok (.aload_n 0, 1) := by decide +kernel
theorem dX2_takeAs_1 : decode cX2_takeAs 1 = .ok (.getfield 12, 3) := by decide +kernel
theorem dX2_takeAs_4 : decode cX2_takeAs 4 = .ok (.aload_n 1, 1) := by decide +kernel
theorem dX2_takeAs_5 : decode cX2_takeAs 5 = .ok (.getfield 12, 3) := by decide +kernel
theorem dX2_takeAs_8 : decode cX2_takeAs 8 = .ok (.invokevirtual 55, 3) := by decide +kernel
theorem dX2_takeAs_11 : decode cX2_takeAs 11 = .ok (.aload_n 0, 1) := by decide +kernel
theorem dX2_takeAs_12 : decode cX2_takeAs 12 = .ok (.getfield 21, 3) := by decide +kernel
theorem dX2_takeAs_15 : decode cX2_takeAs 15 = .ok (.aload_n 1, 1) := by decide +kernel
theorem dX2_takeAs_16 : decode cX2_takeAs 16 = .ok (.getfield 21, 3) := by decide +kernel
theorem dX2_takeAs_19 : decode cX2_takeAs 19 = .ok (.invokevirtual 59, 3) := by decide +kernel
theorem dX2_takeAs_22 : decode cX2_takeAs 22 = .ok (.aload_n 0, 1) := by decide +kernel
theorem dX2_takeAs_23 : decode cX2_takeAs 23 = .ok (.getfield 28, 3) := by decide +kernel
theorem dX2_takeAs_26 : decode cX2_takeAs 26 = .ok (.aload_n 1, 1) := by decide +kernel
theorem dX2_takeAs_27 : decode cX2_takeAs 27 = .ok (.getfield 28, 3) := by decide +kernel
theorem dX2_takeAs_30 : decode cX2_takeAs 30 = .ok (.invokevirtual 62, 3) := by decide +kernel
theorem dX2_takeAs_33 : decode cX2_takeAs 33 = .ok (.aload_n 0, 1) := by decide +kernel
theorem dX2_takeAs_34 : decode cX2_takeAs 34 = .ok (.aload_n 1, 1) := by decide +kernel
theorem dX2_takeAs_35 : decode cX2_takeAs 35 = .ok (.getfield 32, 3) := by decide +kernel
theorem dX2_takeAs_38 : decode cX2_takeAs 38 = .ok (.putfield 32, 3) := by decide +kernel
theorem dX2_takeAs_41 : decode cX2_takeAs 41 = .ok (.aload_n 0, 1) := by decide +kernel
theorem dX2_takeAs_42 : decode cX2_takeAs 42 = .ok (.aload_n 1, 1) := by decide +kernel
theorem dX2_takeAs_43 : decode cX2_takeAs 43 = .ok (.getfield 36, 3) := by decide +kernel
theorem dX2_takeAs_46 : decode cX2_takeAs 46 = .ok (.putfield 36, 3) := by decide +kernel
theorem dX2_takeAs_49 : decode cX2_takeAs 49 = .ok (.return_, 1) := by decide +kernel
theorem dX2_nearBits_0 : decode cX2_nearBits 0 = .ok (.aload_n 0, 1) := by decide +kernel
theorem dX2_nearBits_1 : decode cX2_nearBits 1 = .ok (.getfield 12, 3) := by decide +kernel
theorem dX2_nearBits_4 : decode cX2_nearBits 4 = .ok (.aload_n 0, 1) := by decide +kernel
theorem dX2_nearBits_5 : decode cX2_nearBits 5 = .ok (.getfield 28, 3) := by decide +kernel
theorem dX2_nearBits_8 : decode cX2_nearBits 8 = .ok (.getfield 65, 3) := by decide +kernel
theorem dX2_nearBits_11 : decode cX2_nearBits 11 = .ok (.iload_n 1, 1) := by decide +kernel
theorem dX2_nearBits_12 : decode cX2_nearBits 12 = .ok (.invokestatic 68, 3) := by decide +kernel
theorem dX2_nearBits_15 : decode cX2_nearBits 15 = .ok (.invokevirtual 72, 3) := by decide +kernel
theorem dX2_nearBits_18 : decode cX2_nearBits 18 = .ok (.istore_n 2, 1) := by decide +kernel
theorem dX2_nearBits_19 : decode cX2_nearBits 19 = .ok (.iconst 0, 1) := by decide +kernel
theorem dX2_nearBits_20 : decode cX2_nearBits 20 = .ok (.istore_n 3, 1) := by decide +kernel
theorem dX2_nearBits_21 : decode cX2_nearBits 21 = .ok (.iconst 0, 1) := by decide +kernel
theorem dX2_nearBits_22 : decode cX2_nearBits 22 = .ok (.istore 4, 2) := by decide +kernel
theorem dX2_nearBits_24 : decode cX2_nearBits 24 = .ok (.iload 4, 2) := by decide +kernel
theorem dX2_nearBits_26 : decode cX2_nearBits 26 = .ok (.aload_n 0, 1) := by decide +kernel
theorem dX2_nearBits_27 : decode cX2_nearBits 27 = .ok (.getfield 28, 3) := by decide +kernel
theorem dX2_nearBits_30 : decode cX2_nearBits 30 = .ok (.getfield 76, 3) := by decide +kernel
theorem dX2_nearBits_33 : decode cX2_nearBits 33 = .ok (.if_icmp .ge 42, 3) := by decide +kernel
theorem dX2_nearBits_36 : decode cX2_nearBits 36 = .ok (.iload 4, 2) := by decide +kernel
theorem dX2_nearBits_38 : decode cX2_nearBits 38 = .ok (.iload_n 1, 1) := by decide +kernel
theorem dX2_nearBits_39 : decode cX2_nearBits 39 = .ok (.if_icmp .eq 30, 3) := by decide +kernel
theorem dX2_nearBits_42 : decode cX2_nearBits 42 = .ok (.iload_n 2, 1) := by decide +kernel
theorem dX2_nearBits_43 : decode cX2_nearBits 43 = .ok (.aload_n 0, 1) := by decide +kernel
theorem dX2_nearBits_44 : decode cX2_nearBits 44 = .ok (.getfield 28, 3) := by decide +kernel
theorem dX2_nearBits_47 : decode cX2_nearBits 47 = .ok (.getfield 65, 3) := by decide +kernel
theorem dX2_nearBits_50 : decode cX2_nearBits 50 = .ok (.iload 4, 2) := by decide +kernel
theorem dX2_nearBits_52 : decode cX2_nearBits 52 = .ok (.invokestatic 68, 3) := by decide +kernel
theorem dX2_nearBits_55 : decode cX2_nearBits 55 = .ok (.ishr, 1) := by decide +kernel
theorem dX2_nearBits_56 : decode cX2_nearBits 56 = .ok (.iconst 1, 1) := by decide +kernel
theorem dX2_nearBits_57 : decode cX2_nearBits 57 = .ok (.iand, 1) := by decide +kernel
theorem dX2_nearBits_58 : decode cX2_nearBits 58 = .ok (.iconst 1, 1) := by decide +kernel
theorem dX2_nearBits_59 : decode cX2_nearBits 59 = .ok (.if_icmp .ne 10, 3) := by decide +kernel
theorem dX2_nearBits_62 : decode cX2_nearBits 62 = .ok (.iload_n 3, 1) := by decide +kernel
theorem dX2_nearBits_63 : decode cX2_nearBits 63 = .ok (.iconst 1, 1) := by decide +kernel
theorem dX2_nearBits_64 : decode cX2_nearBits 64 = .ok (.iload 4, 2) := by decide +kernel
theorem dX2_nearBits_66 : decode cX2_nearBits 66 = .ok (.ishl, 1) := by decide +kernel
theorem dX2_nearBits_67 : decode cX2_nearBits 67 = .ok (.ior, 1) := by decide +kernel
theorem dX2_nearBits_68 : decode cX2_nearBits 68 = .ok (.istore_n 3, 1) := by decide +kernel
theorem dX2_nearBits_69 : decode cX2_nearBits 69 = .ok (.iinc 4 1, 3) := by decide +kernel
theorem dX2_nearBits_72 : decode cX2_nearBits 72 = .ok (.goto (-48), 3) := by decide +kernel
theorem dX2_nearBits_75 : decode cX2_nearBits 75 = .ok (.iload_n 3, 1) := by decide +kernel
theorem dX2_nearBits_76 : decode cX2_nearBits 76 = .ok (.ireturn, 1) := by decide +kernel
theorem dX2_give_0 : decode cX2_give 0 = .ok (.aload_n 0, 1) := by decide +kernel
theorem dX2_give_1 : decode cX2_give 1 = .ok (.getfield 21, 3) := by decide +kernel
theorem dX2_give_4 : decode cX2_give 4 = .ok (.iload_n 2, 1) := by decide +kernel
theorem dX2_give_5 : decode cX2_give 5 = .ok (.invokevirtual 79, 3) := by decide +kernel
theorem dX2_give_8 : decode cX2_give 8 = .ok (.ifCond .eq 25, 3) := by decide +kernel
theorem dX2_give_11 : decode cX2_give 11 = .ok (.aload_n 0, 1) := by decide +kernel
theorem dX2_give_12 : decode cX2_give 12 = .ok (.getfield 28, 3) := by decide +kernel
theorem dX2_give_15 : decode cX2_give 15 = .ok (.iload_n 1, 1) := by decide +kernel
theorem dX2_give_16 : decode cX2_give 16 = .ok (.iload_n 2, 1) := by decide +kernel
theorem dX2_give_17 : decode cX2_give 17 = .ok (.aload_n 0, 1) := by decide +kernel
theorem dX2_give_18 : decode cX2_give 18 = .ok (.getfield 21, 3) := by decide +kernel
theorem dX2_give_21 : decode cX2_give 21 = .ok (.iload_n 2, 1) := by decide +kernel
theorem dX2_give_22 : decode cX2_give 22 = .ok (.invokevirtual 83, 3) := by decide +kernel
theorem dX2_give_25 : decode cX2_give 25 = .ok (.iload_n 1, 1) := by decide +kernel
theorem dX2_give_26 : decode cX2_give 26 = .ok (.iload_n 1, 1) := by decide +kernel
theorem dX2_give_27 : decode cX2_give 27 = .ok (.invokevirtual 86, 3) := by decide +kernel
theorem dX2_give_30 : decode cX2_give 30 = .ok (.goto 11, 3) := by decide +kernel
theorem dX2_give_33 : decode cX2_give 33 = .ok (.aload_n 0, 1) := by decide +kernel
theorem dX2_give_34 : decode cX2_give 34 = .ok (.getfield 28, 3) := by decide +kernel
theorem dX2_give_37 : decode cX2_give 37 = .ok (.iload_n 1, 1) := by decide +kernel
theorem dX2_give_38 : decode cX2_give 38 = .ok (.invokevirtual 90, 3) := by decide +kernel
theorem dX2_give_41 : decode cX2_give 41 = .ok (.return_, 1) := by decide +kernel
theorem dX2_passHours_0 : decode cX2_passHours 0 = .ok (.iconst 0, 1) := by decide +kernel
theorem dX2_passHours_1 : decode cX2_passHours 1 = .ok (.istore_n 2, 1) := by decide +kernel
theorem dX2_passHours_2 : decode cX2_passHours 2 = .ok (.iload_n 2, 1) := by decide +kernel
theorem dX2_passHours_3 : decode cX2_passHours 3 = .ok (.iload_n 1, 1) := by decide +kernel
theorem dX2_passHours_4 : decode cX2_passHours 4 = .ok (.if_icmp .ge 14, 3) := by decide +kernel
theorem dX2_passHours_7 : decode cX2_passHours 7 = .ok (.aload_n 0, 1) := by decide +kernel
theorem dX2_passHours_8 : decode cX2_passHours 8 = .ok (.invokevirtual 94, 3) := by decide +kernel
theorem dX2_passHours_11 : decode cX2_passHours 11 = .ok (.pop, 1) := by decide +kernel
theorem dX2_passHours_12 : decode cX2_passHours 12 = .ok (.iinc 2 1, 3) := by decide +kernel
theorem dX2_passHours_15 : decode cX2_passHours 15 = .ok (.goto (-13), 3) := by decide +kernel
theorem dX2_passHours_18 : decode cX2_passHours 18 = .ok (.return_, 1) := by decide +kernel
theorem dX2_passHour_0 : decode cX2_passHour 0 = .ok (.iconst 0, 1) := by decide +kernel
theorem dX2_passHour_1 : decode cX2_passHour 1 = .ok (.istore_n 1, 1) := by decide +kernel
theorem dX2_passHour_2 : decode cX2_passHour 2 = .ok (.iload_n 1, 1) := by decide +kernel
theorem dX2_passHour_3 : decode cX2_passHour 3 = .ok (.aload_n 0, 1) := by decide +kernel
theorem dX2_passHour_4 : decode cX2_passHour 4 = .ok (.getfield 28, 3) := by decide +kernel
theorem dX2_passHour_7 : decode cX2_passHour 7 = .ok (.getfield 76, 3) := by decide +kernel
theorem dX2_passHour_10 : decode cX2_passHour 10 = .ok (.if_icmp .ge 65, 3) := by decide +kernel
theorem dX2_passHour_13 : decode cX2_passHour 13 = .ok (.aload_n 0, 1) := by decide +kernel
theorem dX2_passHour_14 : decode cX2_passHour 14 = .ok (.getfield 39, 3) := by decide +kernel
theorem dX2_passHour_17 : decode cX2_passHour 17 = .ok (.iload_n 1, 1) := by decide +kernel
theorem dX2_passHour_18 : decode cX2_passHour 18 = .ok (.aload_n 0, 1) := by decide +kernel
theorem dX2_passHour_19 : decode cX2_passHour 19 = .ok (.iload_n 1, 1) := by decide +kernel
theorem dX2_passHour_20 : decode cX2_passHour 20 = .ok (.invokevirtual 98, 3) := by decide +kernel
theorem dX2_passHour_23 : decode cX2_passHour 23 = .ok (.invokestatic 101, 3) := by decide +kernel
theorem dX2_passHour_26 : decode cX2_passHour 26 = .ok (.aload_n 0, 1) := by decide +kernel
theorem dX2_passHour_27 : decode cX2_passHour 27 = .ok (.getfield 43, 3) := by decide +kernel
theorem dX2_passHour_30 : decode cX2_passHour 30 = .ok (.iload_n 1, 1) := by decide +kernel
theorem dX2_passHour_31 : decode cX2_passHour 31 = .ok (.aload_n 0, 1) := by decide +kernel
theorem dX2_passHour_32 : decode cX2_passHour 32 = .ok (.getfield 28, 3) := by decide +kernel
theorem dX2_passHour_35 : decode cX2_passHour 35 = .ok (.iload_n 1, 1) := by decide +kernel
theorem dX2_passHour_36 : decode cX2_passHour 36 = .ok (.aload_n 0, 1) := by decide +kernel
theorem dX2_passHour_37 : decode cX2_passHour 37 = .ok (.getfield 36, 3) := by decide +kernel
theorem dX2_passHour_40 : decode cX2_passHour 40 = .ok (.aload_n 0, 1) := by decide +kernel
theorem dX2_passHour_41 : decode cX2_passHour 41 = .ok (.getfield 32, 3) := by decide +kernel
theorem dX2_passHour_44 : decode cX2_passHour 44 = .ok (.invokevirtual 105, 3) := by decide +kernel
theorem dX2_passHour_47 : decode cX2_passHour 47 = .ok (.ifCond .eq 17, 3) := by decide +kernel
theorem dX2_passHour_50 : decode cX2_passHour 50 = .ok (.aload_n 0, 1) := by decide +kernel
theorem dX2_passHour_51 : decode cX2_passHour 51 = .ok (.getfield 28, 3) := by decide +kernel
theorem dX2_passHour_54 : decode cX2_passHour 54 = .ok (.getfield 109, 3) := by decide +kernel
theorem dX2_passHour_57 : decode cX2_passHour 57 = .ok (.iload_n 1, 1) := by decide +kernel
theorem dX2_passHour_58 : decode cX2_passHour 58 = .ok (.invokestatic 68, 3) := by decide +kernel
theorem dX2_passHour_61 : decode cX2_passHour 61 = .ok (.goto 5, 3) := by decide +kernel
theorem dX2_passHour_64 : decode cX2_passHour 64 = .ok (.bipush (-9), 2) := by decide +kernel
theorem dX2_passHour_66 : decode cX2_passHour 66 = .ok (.invokestatic 101, 3) := by decide +kernel
theorem dX2_passHour_69 : decode cX2_passHour 69 = .ok (.iinc 1 1, 3) := by decide +kernel
theorem dX2_passHour_72 : decode cX2_passHour 72 = .ok (.goto (-70), 3) := by decide +kernel
theorem dX2_passHour_75 : decode cX2_passHour 75 = .ok (.iconst 0, 1) := by decide +kernel
theorem dX2_passHour_76 : decode cX2_passHour 76 = .ok (.istore_n 1, 1) := by decide +kernel
theorem dX2_passHour_77 : decode cX2_passHour 77 = .ok (.iload_n 1, 1) := by decide +kernel
theorem dX2_passHour_78 : decode cX2_passHour 78 = .ok (.aload_n 0, 1) := by decide +kernel
theorem dX2_passHour_79 : decode cX2_passHour 79 = .ok (.getfield 28, 3) := by decide +kernel
theorem dX2_passHour_82 : decode cX2_passHour 82 = .ok (.getfield 76, 3) := by decide +kernel
theorem dX2_passHour_85 : decode cX2_passHour 85 = .ok (.if_icmp .ge 14, 3) := by decide +kernel
theorem dX2_passHour_88 : decode cX2_passHour 88 = .ok (.aload_n 0, 1) := by decide +kernel
theorem dX2_passHour_89 : decode cX2_passHour 89 = .ok (.iload_n 1, 1) := by decide +kernel
theorem dX2_passHour_90 : decode cX2_passHour 90 = .ok (.invokevirtual 112, 3) := by decide +kernel
theorem dX2_passHour_93 : decode cX2_passHour 93 = .ok (.iinc 1 1, 3) := by decide +kernel
theorem dX2_passHour_96 : decode cX2_passHour 96 = .ok (.goto (-19), 3) := by decide +kernel
theorem dX2_passHour_99 : decode cX2_passHour 99 = .ok (.iconst 0, 1) := by decide +kernel
theorem dX2_passHour_100 : decode cX2_passHour 100 = .ok (.istore_n 1, 1) := by decide +kernel
theorem dX2_passHour_101 : decode cX2_passHour 101 = .ok (.iconst 0, 1) := by decide +kernel
theorem dX2_passHour_102 : decode cX2_passHour 102 = .ok (.istore_n 2, 1) := by decide +kernel
theorem dX2_passHour_103 : decode cX2_passHour 103 = .ok (.iload_n 2, 1) := by decide +kernel
theorem dX2_passHour_104 : decode cX2_passHour 104 = .ok (.aload_n 0, 1) := by decide +kernel
theorem dX2_passHour_105 : decode cX2_passHour 105 = .ok (.getfield 28, 3) := by decide +kernel
theorem dX2_passHour_108 : decode cX2_passHour 108 = .ok (.getfield 76, 3) := by decide +kernel
theorem dX2_passHour_111 : decode cX2_passHour 111 = .ok (.if_icmp .ge 89, 3) := by decide +kernel
theorem dX2_passHour_114 : decode cX2_passHour 114 = .ok (.aload_n 0, 1) := by decide +kernel
theorem dX2_passHour_115 : decode cX2_passHour 115 = .ok (.getfield 46, 3) := by decide +kernel
theorem dX2_passHour_118 : decode cX2_passHour 118 = .ok (.iload_n 2, 1) := by decide +kernel
theorem dX2_passHour_119 : decode cX2_passHour 119 = .ok (.invokestatic 68, 3) := by decide +kernel
theorem dX2_passHour_122 : decode cX2_passHour 122 = .ok (.istore_n 3, 1) := by decide +kernel
theorem dX2_passHour_123 : decode cX2_passHour 123 = .ok (.aload_n 0, 1) := by decide +kernel
theorem dX2_passHour_124 : decode cX2_passHour 124 = .ok (.getfield 21, 3) := by decide +kernel
theorem dX2_passHour_127 : decode cX2_passHour 127 = .ok (.iload_n 3, 1) := by decide +kernel
theorem dX2_passHour_128 : decode cX2_passHour 128 = .ok (.invokevirtual 79, 3) := by decide +kernel
theorem dX2_passHour_131 : decode cX2_passHour 131 = .ok (.ifCond .eq 42, 3) := by decide +kernel
theorem dX2_passHour_134 : decode cX2_passHour 134 = .ok (.aload_n 0, 1) := by decide +kernel
theorem dX2_passHour_135 : decode cX2_passHour 135 = .ok (.getfield 28, 3) := by decide +kernel
theorem dX2_passHour_138 : decode cX2_passHour 138 = .ok (.iload_n 2, 1) := by decide +kernel
theorem dX2_passHour_139 : decode cX2_passHour 139 = .ok (.iload_n 3, 1) := by decide +kernel
theorem dX2_passHour_140 : decode cX2_passHour 140 = .ok (.aload_n 0, 1) := by decide +kernel
theorem dX2_passHour_141 : decode cX2_passHour 141 = .ok (.getfield 21, 3) := by decide +kernel
theorem dX2_passHour_144 : decode cX2_passHour 144 = .ok (.iload_n 3, 1) := by decide +kernel
theorem dX2_passHour_145 : decode cX2_passHour 145 = .ok (.invokevirtual 83, 3) := by decide +kernel
theorem dX2_passHour_148 : decode cX2_passHour 148 = .ok (.aload_n 0, 1) := by decide +kernel
theorem dX2_passHour_149 : decode cX2_passHour 149 = .ok (.getfield 49, 3) := by decide +kernel
theorem dX2_passHour_152 : decode cX2_passHour 152 = .ok (.iload_n 2, 1) := by decide +kernel
theorem dX2_passHour_153 : decode cX2_passHour 153 = .ok (.invokestatic 68, 3) := by decide +kernel
theorem dX2_passHour_156 : decode cX2_passHour 156 = .ok (.aload_n 0, 1) := by decide +kernel
theorem dX2_passHour_157 : decode cX2_passHour 157 = .ok (.getfield 52, 3) := by decide +kernel
theorem dX2_passHour_160 : decode cX2_passHour 160 = .ok (.iload_n 2, 1) := by decide +kernel
theorem dX2_passHour_161 : decode cX2_passHour 161 = .ok (.invokestatic 68, 3) := by decide +kernel
theorem dX2_passHour_164 : decode cX2_passHour 164 = .ok (.invokevirtual 86, 3) := by decide +kernel
theorem dX2_passHour_167 : decode cX2_passHour 167 = .ok (.iinc 1 1, 3) := by decide +kernel
theorem dX2_passHour_170 : decode cX2_passHour 170 = .ok (.goto 16, 3) := by decide +kernel
theorem dX2_passHour_173 : decode cX2_passHour 173 = .ok (.aload_n 0, 1) := by decide +kernel
theorem dX2_passHour_174 : decode cX2_passHour 174 = .ok (.getfield 28, 3) := by decide +kernel
theorem dX2_passHour_177 : decode cX2_passHour 177 = .ok (.iload_n 2, 1) := by decide +kernel
theorem dX2_passHour_178 : decode cX2_passHour 178 = .ok (.aload_n 0, 1) := by decide +kernel
theorem dX2_passHour_179 : decode cX2_passHour 179 = .ok (.iload_n 2, 1) := by decide +kernel
theorem dX2_passHour_180 : decode cX2_passHour 180 = .ok (.invokevirtual 115, 3) := by decide +kernel
theorem dX2_passHour_183 : decode cX2_passHour 183 = .ok (.invokevirtual 118, 3) := by decide +kernel
theorem dX2_passHour_186 : decode cX2_passHour 186 = .ok (.aload_n 0, 1) := by decide +kernel
theorem dX2_passHour_187 : decode cX2_passHour 187 = .ok (.getfield 28, 3) := by decide +kernel
theorem dX2_passHour_190 : decode cX2_passHour 190 = .ok (.iload_n 2, 1) := by decide +kernel
theorem dX2_passHour_191 : decode cX2_passHour 191 = .ok (.invokevirtual 122, 3) := by decide +kernel
theorem dX2_passHour_194 : decode cX2_passHour 194 = .ok (.iinc 2 1, 3) := by decide +kernel
theorem dX2_passHour_197 : decode cX2_passHour 197 = .ok (.goto (-94), 3) := by decide +kernel
theorem dX2_passHour_200 : decode cX2_passHour 200 = .ok (.aload_n 0, 1) := by decide +kernel
theorem dX2_passHour_201 : decode cX2_passHour 201 = .ok (.dup, 1) := by decide +kernel
theorem dX2_passHour_202 : decode cX2_passHour 202 = .ok (.getfield 32, 3) := by decide +kernel
theorem dX2_passHour_205 : decode cX2_passHour 205 = .ok (.iconst 1, 1) := by decide +kernel
theorem dX2_passHour_206 : decode cX2_passHour 206 = .ok (.iadd, 1) := by decide +kernel
theorem dX2_passHour_207 : decode cX2_passHour 207 = .ok (.putfield 32, 3) := by decide +kernel
theorem dX2_passHour_210 : decode cX2_passHour 210 = .ok (.iload_n 1, 1) := by decide +kernel
theorem dX2_passHour_211 : decode cX2_passHour 211 = .ok (.ireturn, 1) := by decide +kernel
theorem dX2_listen_0 : decode cX2_listen 0 = .ok (.bipush (-9), 2) := by decide +kernel
theorem dX2_listen_2 : decode cX2_listen 2 = .ok (.istore_n 2, 1) := by decide +kernel
theorem dX2_listen_3 : decode cX2_listen 3 = .ok (.bipush (-9), 2) := by decide +kernel
theorem dX2_listen_5 : decode cX2_listen 5 = .ok (.istore_n 3, 1) := by decide +kernel
theorem dX2_listen_6 : decode cX2_listen 6 = .ok (.iconst 0, 1) := by decide +kernel
theorem dX2_listen_7 : decode cX2_listen 7 = .ok (.istore 4, 2) := by decide +kernel
theorem dX2_listen_9 : decode cX2_listen 9 = .ok (.iload 4, 2) := by decide +kernel
theorem dX2_listen_11 : decode cX2_listen 11 = .ok (.aload_n 0, 1) := by decide +kernel
theorem dX2_listen_12 : decode cX2_listen 12 = .ok (.getfield 28, 3) := by decide +kernel
theorem dX2_listen_15 : decode cX2_listen 15 = .ok (.getfield 76, 3) := by decide +kernel
theorem dX2_listen_18 : decode cX2_listen 18 = .ok (.if_icmp .ge 84, 3) := by decide +kernel
theorem dX2_listen_21 : decode cX2_listen 21 = .ok (.aload_n 0, 1) := by decide +kernel
theorem dX2_listen_22 : decode cX2_listen 22 = .ok (.getfield 43, 3) := by decide +kernel
theorem dX2_listen_25 : decode cX2_listen 25 = .ok (.iload 4, 2) := by decide +kernel
theorem dX2_listen_27 : decode cX2_listen 27 = .ok (.invokestatic 68, 3) := by decide +kernel
theorem dX2_listen_30 : decode cX2_listen 30 = .ok (.istore 5, 2) := by decide +kernel
theorem dX2_listen_32 : decode cX2_listen 32 = .ok (.aload_n 0, 1) := by decide +kernel
theorem dX2_listen_33 : decode cX2_listen 33 = .ok (.getfield 39, 3) := by decide +kernel
theorem dX2_listen_36 : decode cX2_listen 36 = .ok (.iload_n 1, 1) := by decide +kernel
theorem dX2_listen_37 : decode cX2_listen 37 = .ok (.invokestatic 68, 3) := by decide +kernel
theorem dX2_listen_40 : decode cX2_listen 40 = .ok (.iload 4, 2) := by decide +kernel
theorem dX2_listen_42 : decode cX2_listen 42 = .ok (.ishr, 1) := by decide +kernel
theorem dX2_listen_43 : decode cX2_listen 43 = .ok (.iconst 1, 1) := by decide +kernel
theorem dX2_listen_44 : decode cX2_listen 44 = .ok (.iand, 1) := by decide +kernel
theorem dX2_listen_45 : decode cX2_listen 45 = .ok (.iconst 1, 1) := by decide +kernel
theorem dX2_listen_46 : decode cX2_listen 46 = .ok (.if_icmp .ne 7, 3) := by decide +kernel
theorem dX2_listen_49 : decode cX2_listen 49 = .ok (.iconst 1, 1) := by decide +kernel
theorem dX2_listen_50 : decode cX2_listen 50 = .ok (.goto 4, 3) := by decide +kernel
theorem dX2_listen_53 : decode cX2_listen 53 = .ok (.iconst 0, 1) := by decide +kernel
theorem dX2_listen_54 : decode cX2_listen 54 = .ok (.istore 6, 2) := by decide +kernel
theorem dX2_listen_56 : decode cX2_listen 56 = .ok (.iload 6, 2) := by decide +kernel
theorem dX2_listen_58 : decode cX2_listen 58 = .ok (.ifCond .eq 38, 3) := by decide +kernel
theorem dX2_listen_61 : decode cX2_listen 61 = .ok (.iload 5, 2) := by decide +kernel
theorem dX2_listen_63 : decode cX2_listen 63 = .ok (.aload_n 0, 1) := by decide +kernel
theorem dX2_listen_64 : decode cX2_listen 64 = .ok (.getfield 28, 3) := by decide +kernel
theorem dX2_listen_67 : decode cX2_listen 67 = .ok (.getfield 109, 3) := by decide +kernel
theorem dX2_listen_70 : decode cX2_listen 70 = .ok (.iload_n 1, 1) := by decide +kernel
theorem dX2_listen_71 : decode cX2_listen 71 = .ok (.invokestatic 68, 3) := by decide +kernel
theorem dX2_listen_74 : decode cX2_listen 74 = .ok (.if_icmp .eq 22, 3) := by decide +kernel
theorem dX2_listen_77 : decode cX2_listen 77 = .ok (.aload_n 0, 1) := by decide +kernel
theorem dX2_listen_78 : decode cX2_listen 78 = .ok (.getfield 21, 3) := by decide +kernel
theorem dX2_listen_81 : decode cX2_listen 81 = .ok (.iload 5, 2) := by decide +kernel
theorem dX2_listen_83 : decode cX2_listen 83 = .ok (.iload_n 2, 1) := by decide +kernel
theorem dX2_listen_84 : decode cX2_listen 84 = .ok (.invokevirtual 125, 3) := by decide +kernel
theorem dX2_listen_87 : decode cX2_listen 87 = .ok (.ifCond .eq 9, 3) := by decide +kernel
theorem dX2_listen_90 : decode cX2_listen 90 = .ok (.iload 5, 2) := by decide +kernel
theorem dX2_listen_92 : decode cX2_listen 92 = .ok (.istore_n 2, 1) := by decide +kernel
theorem dX2_listen_93 : decode cX2_listen 93 = .ok (.iload 4, 2) := by decide +kernel
theorem dX2_listen_95 : decode cX2_listen 95 = .ok (.istore_n 3, 1) := by decide +kernel
theorem dX2_listen_96 : decode cX2_listen 96 = .ok (.iinc 4 1, 3) := by decide +kernel
theorem dX2_listen_99 : decode cX2_listen 99 = .ok (.goto (-90), 3) := by decide +kernel
theorem dX2_listen_102 : decode cX2_listen 102 = .ok (.aload_n 0, 1) := by decide +kernel
theorem dX2_listen_103 : decode cX2_listen 103 = .ok (.getfield 21, 3) := by decide +kernel
theorem dX2_listen_106 : decode cX2_listen 106 = .ok (.iload_n 2, 1) := by decide +kernel
theorem dX2_listen_107 : decode cX2_listen 107 = .ok (.invokevirtual 79, 3) := by decide +kernel
theorem dX2_listen_110 : decode cX2_listen 110 = .ok (.ifCond .eq 51, 3) := by decide +kernel
theorem dX2_listen_113 : decode cX2_listen 113 = .ok (.aload_n 0, 1) := by decide +kernel
theorem dX2_listen_114 : decode cX2_listen 114 = .ok (.getfield 21, 3) := by decide +kernel
theorem dX2_listen_117 : decode cX2_listen 117 = .ok (.getfield 129, 3) := by decide +kernel
theorem dX2_listen_120 : decode cX2_listen 120 = .ok (.iload_n 2, 1) := by decide +kernel
theorem dX2_listen_121 : decode cX2_listen 121 = .ok (.invokestatic 68, 3) := by decide +kernel
theorem dX2_listen_124 : decode cX2_listen 124 = .ok (.aload_n 0, 1) := by decide +kernel
theorem dX2_listen_125 : decode cX2_listen 125 = .ok (.getfield 28, 3) := by decide +kernel
theorem dX2_listen_128 : decode cX2_listen 128 = .ok (.iload_n 1, 1) := by decide +kernel
theorem dX2_listen_129 : decode cX2_listen 129 = .ok (.invokevirtual 132, 3) := by decide +kernel
theorem dX2_listen_132 : decode cX2_listen 132 = .ok (.if_icmp .le 29, 3) := by decide +kernel
theorem dX2_listen_135 : decode cX2_listen 135 = .ok (.aload_n 0, 1) := by decide +kernel
theorem dX2_listen_136 : decode cX2_listen 136 = .ok (.getfield 21, 3) := by decide +kernel
theorem dX2_listen_139 : decode cX2_listen 139 = .ok (.iload_n 2, 1) := by decide +kernel
theorem dX2_listen_140 : decode cX2_listen 140 = .ok (.invokevirtual 83, 3) := by decide +kernel
theorem dX2_listen_143 : decode cX2_listen 143 = .ok (.aload_n 0, 1) := by decide +kernel
theorem dX2_listen_144 : decode cX2_listen 144 = .ok (.getfield 28, 3) := by decide +kernel
theorem dX2_listen_147 : decode cX2_listen 147 = .ok (.getfield 135, 3) := by decide +kernel
theorem dX2_listen_150 : decode cX2_listen 150 = .ok (.iload_n 1, 1) := by decide +kernel
theorem dX2_listen_151 : decode cX2_listen 151 = .ok (.invokestatic 68, 3) := by decide +kernel
theorem dX2_listen_154 : decode cX2_listen 154 = .ok (.if_icmp .le 7, 3) := by decide +kernel
theorem dX2_listen_157 : decode cX2_listen 157 = .ok (.iconst 1, 1) := by decide +kernel
theorem dX2_listen_158 : decode cX2_listen 158 = .ok (.goto 4, 3) := by decide +kernel
theorem dX2_listen_161 : decode cX2_listen 161 = .ok (.iconst 0, 1) := by decide +kernel
theorem dX2_listen_162 : decode cX2_listen 162 = .ok (.istore 4, 2) := by decide +kernel
theorem dX2_listen_164 : decode cX2_listen 164 = .ok (.aload_n 0, 1) := by decide +kernel
theorem dX2_listen_165 : decode cX2_listen 165 = .ok (.getfield 46, 3) := by decide +kernel
theorem dX2_listen_168 : decode cX2_listen 168 = .ok (.iload_n 1, 1) := by decide +kernel
theorem dX2_listen_169 : decode cX2_listen 169 = .ok (.iload 4, 2) := by decide +kernel
theorem dX2_listen_171 : decode cX2_listen 171 = .ok (.ifCond .eq 7, 3) := by decide +kernel
theorem dX2_listen_174 : decode cX2_listen 174 = .ok (.iload_n 2, 1) := by decide +kernel
theorem dX2_listen_175 : decode cX2_listen 175 = .ok (.goto 5, 3) := by decide +kernel
theorem dX2_listen_178 : decode cX2_listen 178 = .ok (.bipush (-9), 2) := by decide +kernel
theorem dX2_listen_180 : decode cX2_listen 180 = .ok (.invokestatic 101, 3) := by decide +kernel
theorem dX2_listen_183 : decode cX2_listen 183 = .ok (.aload_n 0, 1) := by decide +kernel
theorem dX2_listen_184 : decode cX2_listen 184 = .ok (.getfield 49, 3) := by decide +kernel
theorem dX2_listen_187 : decode cX2_listen 187 = .ok (.iload_n 1, 1) := by decide +kernel
theorem dX2_listen_188 : decode cX2_listen 188 = .ok (.iload_n 3, 1) := by decide +kernel
theorem dX2_listen_189 : decode cX2_listen 189 = .ok (.invokestatic 101, 3) := by decide +kernel
theorem dX2_listen_192 : decode cX2_listen 192 = .ok (.aload_n 0, 1) := by decide +kernel
theorem dX2_listen_193 : decode cX2_listen 193 = .ok (.getfield 52, 3) := by decide +kernel
theorem dX2_listen_196 : decode cX2_listen 196 = .ok (.iload_n 1, 1) := by decide +kernel
theorem dX2_listen_197 : decode cX2_listen 197 = .ok (.aload_n 0, 1) := by decide +kernel
theorem dX2_listen_198 : decode cX2_listen 198 = .ok (.getfield 28, 3) := by decide +kernel
theorem dX2_listen_201 : decode cX2_listen 201 = .ok (.getfield 138, 3) := by decide +kernel
theorem dX2_listen_204 : decode cX2_listen 204 = .ok (.iload_n 3, 1) := by decide +kernel
theorem dX2_listen_205 : decode cX2_listen 205 = .ok (.invokestatic 68, 3) := by decide +kernel
theorem dX2_listen_208 : decode cX2_listen 208 = .ok (.invokestatic 101, 3) := by decide +kernel
theorem dX2_listen_211 : decode cX2_listen 211 = .ok (.return_, 1) := by decide +kernel
theorem dX2_weakening_0 : decode cX2_weakening 0 = .ok (.aload_n 0, 1) := by decide +kernel
theorem dX2_weakening_1 : decode cX2_weakening 1 = .ok (.getfield 28, 3) := by decide +kernel
theorem dX2_weakening_4 : decode cX2_weakening 4 = .ok (.getfield 109, 3) := by decide +kernel
theorem dX2_weakening_7 : decode cX2_weakening 7 = .ok (.iload_n 1, 1) := by decide +kernel
theorem dX2_weakening_8 : decode cX2_weakening 8 = .ok (.invokestatic 68, 3) := by decide +kernel
theorem dX2_weakening_11 : decode cX2_weakening 11 = .ok (.istore_n 2, 1) := by decide +kernel
theorem dX2_weakening_12 : decode cX2_weakening 12 = .ok (.aload_n 0, 1) := by decide +kernel
theorem dX2_weakening_13 : decode cX2_weakening 13 = .ok (.getfield 28, 3) := by decide +kernel
theorem dX2_weakening_16 : decode cX2_weakening 16 = .ok (.getfield 141, 3) := by decide +kernel
theorem dX2_weakening_19 : decode cX2_weakening 19 = .ok (.iload_n 1, 1) := by decide +kernel
theorem dX2_weakening_20 : decode cX2_weakening 20 = .ok (.invokestatic 68, 3) := by decide +kernel
theorem dX2_weakening_23 : decode cX2_weakening 23 = .ok (.ifCond .le 7, 3) := by decide +kernel
theorem dX2_weakening_26 : decode cX2_weakening 26 = .ok (.iconst 1, 1) := by decide +kernel
theorem dX2_weakening_27 : decode cX2_weakening 27 = .ok (.goto 4, 3) := by decide +kernel
theorem dX2_weakening_30 : decode cX2_weakening 30 = .ok (.iconst 0, 1) := by decide +kernel
theorem dX2_weakening_31 : decode cX2_weakening 31 = .ok (.istore_n 3, 1) := by decide +kernel
theorem dX2_weakening_32 : decode cX2_weakening 32 = .ok (.aload_n 0, 1) := by decide +kernel
theorem dX2_weakening_33 : decode cX2_weakening 33 = .ok (.getfield 21, 3) := by decide +kernel
theorem dX2_weakening_36 : decode cX2_weakening 36 = .ok (.iload_n 2, 1) := by decide +kernel
theorem dX2_weakening_37 : decode cX2_weakening 37 = .ok (.invokevirtual 79, 3) := by decide +kernel
theorem dX2_weakening_40 : decode cX2_weakening 40 = .ok (.ifCond .eq 20, 3) := by decide +kernel
theorem dX2_weakening_43 : decode cX2_weakening 43 = .ok (.aload_n 0, 1) := by decide +kernel
theorem dX2_weakening_44 : decode cX2_weakening 44 = .ok (.getfield 21, 3) := by decide +kernel
theorem dX2_weakening_47 : decode cX2_weakening 47 = .ok (.iload_n 2, 1) := by decide +kernel
theorem dX2_weakening_48 : decode cX2_weakening 48 = .ok (.aload_n 0, 1) := by decide +kernel
theorem dX2_weakening_49 : decode cX2_weakening 49 = .ok (.getfield 32, 3) := by decide +kernel
theorem dX2_weakening_52 : decode cX2_weakening 52 = .ok (.invokevirtual 144, 3) := by decide +kernel
theorem dX2_weakening_55 : decode cX2_weakening 55 = .ok (.iload_n 3, 1) := by decide +kernel
theorem dX2_weakening_56 : decode cX2_weakening 56 = .ok (.iadd, 1) := by decide +kernel
theorem dX2_weakening_57 : decode cX2_weakening 57 = .ok (.goto 4, 3) := by decide +kernel
theorem dX2_weakening_60 : decode cX2_weakening 60 = .ok (.iconst 0, 1) := by decide +kernel
theorem dX2_weakening_61 : decode cX2_weakening 61 = .ok (.ireturn, 1) := by decide +kernel
theorem dX3_init_0 : decode cX3_init 0 = .ok (.aload_n 0, 1) := by decide +kernel
theorem dX3_init_1 : decode cX3_init 1 = .ok (.invokespecial 3, 3) := by decide +kernel
theorem dX3_init_4 : decode cX3_init 4 = .ok (.aload_n 0, 1) := by decide +kernel
theorem dX3_init_5 : decode cX3_init 5 = .ok (.iconst 5, 1) := by decide +kernel
theorem dX3_init_6 : decode cX3_init 6 = .ok (.newarray .int, 2) := by decide +kernel
theorem dX3_init_8 : decode cX3_init 8 = .ok (.putfield 9, 3) := by decide +kernel
theorem dX3_init_11 : decode cX3_init 11 = .ok (.aload_n 0, 1) := by decide +kernel
theorem dX3_init_12 : decode cX3_init 12 = .ok (.iconst 5, 1) := by decide +kernel
theorem dX3_init_13 : decode cX3_init 13 = .ok (.newarray .int, 2) := by decide +kernel
theorem dX3_init_15 : decode cX3_init 15 = .ok (.putfield 15, 3) := by decide +kernel
theorem dX3_init_18 : decode cX3_init 18 = .ok (.aload_n 0, 1) := by decide +kernel
theorem dX3_init_19 : decode cX3_init 19 = .ok (.iconst 5, 1) := by decide +kernel
theorem dX3_init_20 : decode cX3_init 20 = .ok (.newarray .int, 2) := by decide +kernel
theorem dX3_init_22 : decode cX3_init 22 = .ok (.putfield 18, 3) := by decide +kernel
theorem dX3_init_25 : decode cX3_init 25 = .ok (.aload_n 0, 1) := by decide +kernel
theorem dX3_init_26 : decode cX3_init 26 = .ok (.iconst 0, 1) := by decide +kernel
theorem dX3_init_27 : decode cX3_init 27 = .ok (.putfield 21, 3) := by decide +kernel
theorem dX3_init_30 : decode cX3_init 30 = .ok (.return_, 1) := by decide +kernel
theorem dX3_has_0 : decode cX3_has 0 = .ok (.iload_n 1, 1) := by decide +kernel
theorem dX3_has_1 : decode cX3_has 1 = .ok (.ifCond .lt 15, 3) := by decide +kernel
theorem dX3_has_4 : decode cX3_has 4 = .ok (.iload_n 1, 1) := by decide +kernel
theorem dX3_has_5 : decode cX3_has 5 = .ok (.aload_n 0, 1) := by decide +kernel
theorem dX3_has_6 : decode cX3_has 6 = .ok (.getfield 21, 3) := by decide +kernel
theorem dX3_has_9 : decode cX3_has 9 = .ok (.if_icmp .ge 7, 3) := by decide +kernel
theorem dX3_has_12 : decode cX3_has 12 = .ok (.iconst 1, 1) := by decide +kernel
theorem dX3_has_13 : decode cX3_has 13 = .ok (.goto 4, 3) := by decide +kernel
theorem dX3_has_16 : decode cX3_has 16 = .ok (.iconst 0, 1) := by decide +kernel
theorem dX3_has_17 : decode cX3_has 17 = .ok (.ireturn, 1) := by decide +kernel
theorem dX3_isFull_0 : decode cX3_isFull 0 = .ok (.aload_n 0, 1) := by decide +kernel
theorem dX3_isFull_1 : decode cX3_isFull 1 = .ok (.getfield 21, 3) := by decide +kernel
theorem dX3_isFull_4 : decode cX3_isFull 4 = .ok (.iconst 5, 1) := by decide +kernel
theorem dX3_isFull_5 : decode cX3_isFull 5 = .ok (.if_icmp .lt 7, 3) := by decide +kernel
theorem dX3_isFull_8 : decode cX3_isFull 8 = .ok (.iconst 1, 1) := by decide +kernel
theorem dX3_isFull_9 : decode cX3_isFull 9 = .ok (.goto 4, 3) := by decide +kernel
theorem dX3_isFull_12 : decode cX3_isFull 12 = .ok (.iconst 0, 1) := by decide +kernel
theorem dX3_isFull_13 : decode cX3_isFull 13 = .ok (.ireturn, 1) := by decide +kernel
theorem dX3_add_0 : decode cX3_add 0 = .ok (.aload_n 0, 1) := by decide +kernel
theorem dX3_add_1 : decode cX3_add 1 = .ok (.invokevirtual 25, 3) := by decide +kernel
theorem dX3_add_4 : decode cX3_add 4 = .ok (.ifCond .ne 8, 3) := by decide +kernel
theorem dX3_add_7 : decode cX3_add 7 = .ok (.iload_n 3, 1) := by decide +kernel
theorem dX3_add_8 : decode cX3_add 8 = .ok (.iconst 1, 1) := by decide +kernel
theorem dX3_add_9 : decode cX3_add 9 = .ok (.if_icmp .ge 5, 3) := by decide +kernel
theorem dX3_add_12 : decode cX3_add 12 = .ok (.iconst 0, 1) := by decide +kernel
theorem dX3_add_13 : decode cX3_add 13 = .ok (.ireturn, 1) := by decide +kernel
theorem dX3_add_14 : decode cX3_add 14 = .ok (.aload_n 0, 1) := by decide +kernel
theorem dX3_add_15 : decode cX3_add 15 = .ok (.getfield 9, 3) := by decide +kernel
theorem dX3_add_18 : decode cX3_add 18 = .ok (.aload_n 0, 1) := by decide +kernel
theorem dX3_add_19 : decode cX3_add 19 = .ok (.getfield 21, 3) := by decide +kernel
theorem dX3_add_22 : decode cX3_add 22 = .ok (.iload_n 1, 1) := by decide +kernel
theorem dX3_add_23 : decode cX3_add 23 = .ok (.invokestatic 29, 3) := by decide +kernel
theorem dX3_add_26 : decode cX3_add 26 = .ok (.aload_n 0, 1) := by decide +kernel
theorem dX3_add_27 : decode cX3_add 27 = .ok (.getfield 15, 3) := by decide +kernel
theorem dX3_add_30 : decode cX3_add 30 = .ok (.aload_n 0, 1) := by decide +kernel
theorem dX3_add_31 : decode cX3_add 31 = .ok (.getfield 21, 3) := by decide +kernel
theorem dX3_add_34 : decode cX3_add 34 = .ok (.iload_n 2, 1) := by decide +kernel
theorem dX3_add_35 : decode cX3_add 35 = .ok (.invokestatic 29, 3) := by decide +kernel
theorem dX3_add_38 : decode cX3_add 38 = .ok (.aload_n 0, 1) := by decide +kernel
theorem dX3_add_39 : decode cX3_add 39 = .ok (.getfield 18, 3) := by decide +kernel
theorem dX3_add_42 : decode cX3_add 42 = .ok (.aload_n 0, 1) := by decide +kernel
theorem dX3_add_43 : decode cX3_add 43 = .ok (.getfield 21, 3) := by decide +kernel
theorem dX3_add_46 : decode cX3_add 46 = .ok (.iload_n 3, 1) := by decide +kernel
theorem dX3_add_47 : decode cX3_add 47 = .ok (.invokestatic 29, 3) := by decide +kernel
theorem dX3_add_50 : decode cX3_add 50 = .ok (.aload_n 0, 1) := by decide +kernel
theorem dX3_add_51 : decode cX3_add 51 = .ok (.dup, 1) := by decide +kernel
theorem dX3_add_52 : decode cX3_add 52 = .ok (.getfield 21, 3) := by decide +kernel
theorem dX3_add_55 : decode cX3_add 55 = .ok (.iconst 1, 1) := by decide +kernel
theorem dX3_add_56 : decode cX3_add 56 = .ok (.iadd, 1) := by decide +kernel
theorem dX3_add_57 : decode cX3_add 57 = .ok (.putfield 21, 3) := by decide +kernel
theorem dX3_add_60 : decode cX3_add 60 = .ok (.iconst 1, 1) := by decide +kernel
theorem dX3_add_61 : decode cX3_add 61 = .ok (.ireturn, 1) := by decide +kernel
theorem dX3_fresh_0 : decode cX3_fresh 0 = .ok (.iconst 2, 1) := by decide +kernel
theorem dX3_fresh_1 : decode cX3_fresh 1 = .ok (.aload_n 0, 1) := by decide +kernel
theorem dX3_fresh_2 : decode cX3_fresh 2 = .ok (.getfield 15, 3) := by decide +kernel
theorem dX3_fresh_5 : decode cX3_fresh 5 = .ok (.iload_n 1, 1) := by decide +kernel
theorem dX3_fresh_6 : decode cX3_fresh 6 = .ok (.invokestatic 33, 3) := by decide +kernel
theorem dX3_fresh_9 : decode cX3_fresh 9 = .ok (.imul, 1) := by decide +kernel
theorem dX3_fresh_10 : decode cX3_fresh 10 = .ok (.aload_n 0, 1) := by decide +kernel
theorem dX3_fresh_11 : decode cX3_fresh 11 = .ok (.getfield 18, 3) := by decide +kernel
theorem dX3_fresh_14 : decode cX3_fresh 14 = .ok (.iload_n 1, 1) := by decide +kernel
theorem dX3_fresh_15 : decode cX3_fresh 15 = .ok (.invokestatic 33, 3) := by decide +kernel
theorem dX3_fresh_18 : decode cX3_fresh 18 = .ok (.iadd, 1) := by decide +kernel
theorem dX3_fresh_19 : decode cX3_fresh 19 = .ok (.istore_n 2, 1) := by decide +kernel
theorem dX3_fresh_20 : decode cX3_fresh 20 = .ok (.aload_n 0, 1) := by decide +kernel
theorem dX3_fresh_21 : decode cX3_fresh 21 = .ok (.getfield 9, 3) := by decide +kernel
theorem dX3_fresh_24 : decode cX3_fresh 24 = .ok (.iload_n 1, 1) := by decide +kernel
theorem dX3_fresh_25 : decode cX3_fresh 25 = .ok (.invokestatic 33, 3) := by decide +kernel
theorem dX3_fresh_28 : decode cX3_fresh 28 = .ok (.lookupswitch 38 #[(2, 28), (4, 32)], 28) := by decide +kernel
theorem dX3_fresh_56 : decode cX3_fresh 56 = .ok (.iload_n 2, 1) := by decide +kernel
theorem dX3_fresh_57 : decode cX3_fresh 57 = .ok (.iconst 3, 1) := by decide +kernel
theorem dX3_fresh_58 : decode cX3_fresh 58 = .ok (.iadd, 1) := by decide +kernel
theorem dX3_fresh_59 : decode cX3_fresh 59 = .ok (.ireturn, 1) := by decide +kernel
theorem dX3_fresh_60 : decode cX3_fresh 60 = .ok (.iconst 2, 1) := by decide +kernel
theorem dX3_fresh_61 : decode cX3_fresh 61 = .ok (.iload_n 2, 1) := by decide +kernel
theorem dX3_fresh_62 : decode cX3_fresh 62 = .ok (.iconst 3, 1) := by decide +kernel
theorem dX3_fresh_63 : decode cX3_fresh 63 = .ok (.iadd, 1) := by decide +kernel
theorem dX3_fresh_64 : decode cX3_fresh 64 = .ok (.imul, 1) := by decide +kernel
theorem dX3_fresh_65 : decode cX3_fresh 65 = .ok (.ireturn, 1) := by decide +kernel
theorem dX3_fresh_66 : decode cX3_fresh 66 = .ok (.iload_n 2, 1) := by decide +kernel
theorem dX3_fresh_67 : decode cX3_fresh 67 = .ok (.ireturn, 1) := by decide +kernel
theorem dX3_fading_0 : decode cX3_fading 0 = .ok (.aload_n 0, 1) := by decide +kernel
theorem dX3_fading_1 : decode cX3_fading 1 = .ok (.getfield 9, 3) := by decide +kernel
theorem dX3_fading_4 : decode cX3_fading 4 = .ok (.iload_n 1, 1) := by decide +kernel
theorem dX3_fading_5 : decode cX3_fading 5 = .ok (.invokestatic 33, 3) := by decide +kernel
theorem dX3_fading_8 : decode cX3_fading 8 = .ok (.tableswitch 73 0 5 #[40, 73, 42, 47, 44, 61], 40) := by decide +kernel
theorem dX3_fading_48 : decode cX3_fading 48 = .ok (.iconst 2, 1) := by decide +kernel
theorem dX3_fading_49 : decode cX3_fading 49 = .ok (.ireturn, 1) := by decide +kernel
theorem dX3_fading_50 : decode cX3_fading 50 = .ok (.iconst 3, 1) := by decide +kernel
theorem dX3_fading_51 : decode cX3_fading 51 = .ok (.ireturn, 1) := by decide +kernel
theorem dX3_fading_52 : decode cX3_fading 52 = .ok (.bipush 6, 2) := by decide +kernel
theorem dX3_fading_54 : decode cX3_fading 54 = .ok (.ireturn, 1) := by decide +kernel
theorem dX3_fading_55 : decode cX3_fading 55 = .ok (.iload_n 2, 1) := by decide +kernel
theorem dX3_fading_56 : decode cX3_fading 56 = .ok (.bipush 6, 2) := by decide +kernel
theorem dX3_fading_58 : decode cX3_fading 58 = .ok (.irem, 1) := by decide +kernel
theorem dX3_fading_59 : decode cX3_fading 59 = .ok (.ifCond .ne 8, 3) := by decide +kernel
theorem dX3_fading_62 : decode cX3_fading 62 = .ok (.bipush (-4), 2) := by decide +kernel
theorem dX3_fading_64 : decode cX3_fading 64 = .ok (.goto 4, 3) := by decide +kernel
theorem dX3_fading_67 : decode cX3_fading 67 = .ok (.iconst 1, 1) := by decide +kernel
theorem dX3_fading_68 : decode cX3_fading 68 = .ok (.ireturn, 1) := by decide +kernel
theorem dX3_fading_69 : decode cX3_fading 69 = .ok (.iload_n 2, 1) := by decide +kernel
theorem dX3_fading_70 : decode cX3_fading 70 = .ok (.iconst 2, 1) := by decide +kernel
theorem dX3_fading_71 : decode cX3_fading 71 = .ok (.irem, 1) := by decide +kernel
theorem dX3_fading_72 : decode cX3_fading 72 = .ok (.ifCond .ne 7, 3) := by decide +kernel
theorem dX3_fading_75 : decode cX3_fading 75 = .ok (.iconst 1, 1) := by decide +kernel
theorem dX3_fading_76 : decode cX3_fading 76 = .ok (.goto 4, 3) := by decide +kernel
theorem dX3_fading_79 : decode cX3_fading 79 = .ok (.iconst 0, 1) := by decide +kernel
theorem dX3_fading_80 : decode cX3_fading 80 = .ok (.ireturn, 1) := by decide +kernel
theorem dX3_fading_81 : decode cX3_fading 81 = .ok (.iconst 1, 1) := by decide +kernel
theorem dX3_fading_82 : decode cX3_fading 82 = .ok (.ireturn, 1) := by decide +kernel
theorem dX3_isStronger_0 : decode cX3_isStronger 0 = .ok (.aload_n 0, 1) := by decide +kernel
theorem dX3_isStronger_1 : decode cX3_isStronger 1 = .ok (.iload_n 1, 1) := by decide +kernel
theorem dX3_isStronger_2 : decode cX3_isStronger 2 = .ok (.invokevirtual 37, 3) := by decide +kernel
theorem dX3_isStronger_5 : decode cX3_isStronger 5 = .ok (.ifCond .eq 11, 3) := by decide +kernel
theorem dX3_isStronger_8 : decode cX3_isStronger 8 = .ok (.aload_n 0, 1) := by decide +kernel
theorem dX3_isStronger_9 : decode cX3_isStronger 9 = .ok (.iload_n 2, 1) := by decide +kernel
theorem dX3_isStronger_10 : decode cX3_isStronger 10 = .ok (.invokevirtual 37, 3) := by decide +kernel
theorem dX3_isStronger_13 : decode cX3_isStronger 13 = .ok (.ifCond .ne 9, 3) := by decide +kernel
theorem dX3_isStronger_16 : decode cX3_isStronger 16 = .ok (.aload_n 0, 1) := by decide +kernel
theorem dX3_isStronger_17 : decode cX3_isStronger 17 = .ok (.iload_n 1, 1) := by decide +kernel
theorem dX3_isStronger_18 : decode cX3_isStronger 18 = .ok (.invokevirtual 37, 3) := by decide +kernel
theorem dX3_isStronger_21 : decode cX3_isStronger 21 = .ok (.ireturn, 1) := by decide +kernel
theorem dX3_isStronger_22 : decode cX3_isStronger 22 = .ok (.aload_n 0, 1) := by decide +kernel
theorem dX3_isStronger_23 : decode cX3_isStronger 23 = .ok (.getfield 15, 3) := by decide +kernel
theorem dX3_isStronger_26 : decode cX3_isStronger 26 = .ok (.iload_n 1, 1) := by decide +kernel
theorem dX3_isStronger_27 : decode cX3_isStronger 27 = .ok (.invokestatic 33, 3) := by decide +kernel
theorem dX3_isStronger_30 : decode cX3_isStronger 30 = .ok (.aload_n 0, 1) := by decide +kernel
theorem dX3_isStronger_31 : decode cX3_isStronger 31 = .ok (.getfield 15, 3) := by decide +kernel
theorem dX3_isStronger_34 : decode cX3_isStronger 34 = .ok (.iload_n 2, 1) := by decide +kernel
theorem dX3_isStronger_35 : decode cX3_isStronger 35 = .ok (.invokestatic 33, 3) := by decide +kernel
theorem dX3_isStronger_38 : decode cX3_isStronger 38 = .ok (.isub, 1) := by decide +kernel
theorem dX3_isStronger_39 : decode cX3_isStronger 39 = .ok (.istore_n 3, 1) := by decide +kernel
theorem dX3_isStronger_40 : decode cX3_isStronger 40 = .ok (.iload_n 3, 1) := by decide +kernel
theorem dX3_isStronger_41 : decode cX3_isStronger 41 = .ok (.ifCond .gt 12, 3) := by decide +kernel
theorem dX3_isStronger_44 : decode cX3_isStronger 44 = .ok (.iload_n 3, 1) := by decide +kernel
theorem dX3_isStronger_45 : decode cX3_isStronger 45 = .ok (.ifCond .ne 12, 3) := by decide +kernel
theorem dX3_isStronger_48 : decode cX3_isStronger 48 = .ok (.iload_n 1, 1) := by decide +kernel
theorem dX3_isStronger_49 : decode cX3_isStronger 49 = .ok (.iload_n 2, 1) := by decide +kernel
theorem dX3_isStronger_50 : decode cX3_isStronger 50 = .ok (.if_icmp .ge 7, 3) := by decide +kernel
theorem dX3_isStronger_53 : decode cX3_isStronger 53 = .ok (.iconst 1, 1) := by decide +kernel
theorem dX3_isStronger_54 : decode cX3_isStronger 54 = .ok (.goto 4, 3) := by decide +kernel
theorem dX3_isStronger_57 : decode cX3_isStronger 57 = .ok (.iconst 0, 1) := by decide +kernel
theorem dX3_isStronger_58 : decode cX3_isStronger 58 = .ok (.ireturn, 1) := by decide +kernel
theorem dX3_takeAs_0 : decode cX3_takeAs 0 = .ok (.aload_n 1, 1) := by decide +kernel
theorem dX3_takeAs_1 : decode cX3_takeAs 1 = .ok (.getfield 9, 3) := by decide +kernel
theorem dX3_takeAs_4 : decode cX3_takeAs 4 = .ok (.aload_n 0, 1) := by decide +kernel
theorem dX3_takeAs_5 : decode cX3_takeAs 5 = .ok (.getfield 9, 3) := by decide +kernel
theorem dX3_takeAs_8 : decode cX3_takeAs 8 = .ok (.invokestatic 41, 3) := by decide +kernel
theorem dX3_takeAs_11 : decode cX3_takeAs 11 = .ok (.aload_n 1, 1) := by decide +kernel
theorem dX3_takeAs_12 : decode cX3_takeAs 12 = .ok (.getfield 15, 3) := by decide +kernel
theorem dX3_takeAs_15 : decode cX3_takeAs 15 = .ok (.aload_n 0, 1) := by decide +kernel
theorem dX3_takeAs_16 : decode cX3_takeAs 16 = .ok (.getfield 15, 3) := by decide +kernel
theorem dX3_takeAs_19 : decode cX3_takeAs 19 = .ok (.invokestatic 41, 3) := by decide +kernel
theorem dX3_takeAs_22 : decode cX3_takeAs 22 = .ok (.aload_n 1, 1) := by decide +kernel
theorem dX3_takeAs_23 : decode cX3_takeAs 23 = .ok (.getfield 18, 3) := by decide +kernel
theorem dX3_takeAs_26 : decode cX3_takeAs 26 = .ok (.aload_n 0, 1) := by decide +kernel
theorem dX3_takeAs_27 : decode cX3_takeAs 27 = .ok (.getfield 18, 3) := by decide +kernel
theorem dX3_takeAs_30 : decode cX3_takeAs 30 = .ok (.invokestatic 41, 3) := by decide +kernel
theorem dX3_takeAs_33 : decode cX3_takeAs 33 = .ok (.aload_n 0, 1) := by decide +kernel
theorem dX3_takeAs_34 : decode cX3_takeAs 34 = .ok (.aload_n 1, 1) := by decide +kernel
theorem dX3_takeAs_35 : decode cX3_takeAs 35 = .ok (.getfield 21, 3) := by decide +kernel
theorem dX3_takeAs_38 : decode cX3_takeAs 38 = .ok (.putfield 21, 3) := by decide +kernel
theorem dX3_takeAs_41 : decode cX3_takeAs 41 = .ok (.return_, 1) := by decide +kernel
theorem dX4_init_0 : decode cX4_init 0 = .ok (.aload_n 0, 1) := by decide +kernel
theorem dX4_init_1 : decode cX4_init 1 = .ok (.invokespecial 3, 3) := by decide +kernel
theorem dX4_init_4 : decode cX4_init 4 = .ok (.aload_n 0, 1) := by decide +kernel
theorem dX4_init_5 : decode cX4_init 5 = .ok (.bipush 96, 2) := by decide +kernel
theorem dX4_init_7 : decode cX4_init 7 = .ok (.newarray .int, 2) := by decide +kernel
theorem dX4_init_9 : decode cX4_init 9 = .ok (.putfield 9, 3) := by decide +kernel
theorem dX4_init_12 : decode cX4_init 12 = .ok (.aload_n 0, 1) := by decide +kernel
theorem dX4_init_13 : decode cX4_init 13 = .ok (.iconst 0, 1) := by decide +kernel
theorem dX4_init_14 : decode cX4_init 14 = .ok (.putfield 15, 3) := by decide +kernel
theorem dX4_init_17 : decode cX4_init 17 = .ok (.return_, 1) := by decide +kernel
theorem dX4_isFull_0 : decode cX4_isFull 0 = .ok (.aload_n 0, 1) := by decide +kernel
theorem dX4_isFull_1 : decode cX4_isFull 1 = .ok (.getfield 15, 3) := by decide +kernel
theorem dX4_isFull_4 : decode cX4_isFull 4 = .ok (.bipush 96, 2) := by decide +kernel
theorem dX4_isFull_6 : decode cX4_isFull 6 = .ok (.if_icmp .lt 7, 3) := by decide +kernel
theorem dX4_isFull_9 : decode cX4_isFull 9 = .ok (.iconst 1, 1) := by decide +kernel
theorem dX4_isFull_10 : decode cX4_isFull 10 = .ok (.goto 4, 3) := by decide +kernel
theorem dX4_isFull_13 : decode cX4_isFull 13 = .ok (.iconst 0, 1) := by decide +kernel
theorem dX4_isFull_14 : decode cX4_isFull 14 = .ok (.ireturn, 1) := by decide +kernel
theorem dX4_add_0 : decode cX4_add 0 = .ok (.aload_n 0, 1) := by decide +kernel
theorem dX4_add_1 : decode cX4_add 1 = .ok (.getfield 9, 3) := by decide +kernel
theorem dX4_add_4 : decode cX4_add 4 = .ok (.aload_n 0, 1) := by decide +kernel
theorem dX4_add_5 : decode cX4_add 5 = .ok (.getfield 15, 3) := by decide +kernel
theorem dX4_add_8 : decode cX4_add 8 = .ok (.iload_n 1, 1) := by decide +kernel
theorem dX4_add_9 : decode cX4_add 9 = .ok (.invokestatic 19, 3) := by decide +kernel
theorem dX4_add_12 : decode cX4_add 12 = .ok (.aload_n 0, 1) := by decide +kernel
theorem dX4_add_13 : decode cX4_add 13 = .ok (.dup, 1) := by decide +kernel
theorem dX4_add_14 : decode cX4_add 14 = .ok (.getfield 15, 3) := by decide +kernel
theorem dX4_add_17 : decode cX4_add 17 = .ok (.iconst 1, 1) := by decide +kernel
theorem dX4_add_18 : decode cX4_add 18 = .ok (.iadd, 1) := by decide +kernel
theorem dX4_add_19 : decode cX4_add 19 = .ok (.putfield 15, 3) := by decide +kernel
theorem dX4_add_22 : decode cX4_add 22 = .ok (.return_, 1) := by decide +kernel
theorem dX4_sign_0 : decode cX4_sign 0 = .ok (.iload_n 1, 1) := by decide +kernel
theorem dX4_sign_1 : decode cX4_sign 1 = .ok (.ifCond .lt 22, 3) := by decide +kernel
theorem dX4_sign_4 : decode cX4_sign 4 = .ok (.iload_n 1, 1) := by decide +kernel
theorem dX4_sign_5 : decode cX4_sign 5 = .ok (.aload_n 0, 1) := by decide +kernel
theorem dX4_sign_6 : decode cX4_sign 6 = .ok (.getfield 15, 3) := by decide +kernel
theorem dX4_sign_9 : decode cX4_sign 9 = .ok (.if_icmp .ge 14, 3) := by decide +kernel
theorem dX4_sign_12 : decode cX4_sign 12 = .ok (.aload_n 0, 1) := by decide +kernel
theorem dX4_sign_13 : decode cX4_sign 13 = .ok (.getfield 9, 3) := by decide +kernel
theorem dX4_sign_16 : decode cX4_sign 16 = .ok (.iload_n 1, 1) := by decide +kernel
theorem dX4_sign_17 : decode cX4_sign 17 = .ok (.invokestatic 23, 3) := by decide +kernel
theorem dX4_sign_20 : decode cX4_sign 20 = .ok (.goto 4, 3) := by decide +kernel
theorem dX4_sign_23 : decode cX4_sign 23 = .ok (.iconst (-1), 1) := by decide +kernel
theorem dX4_sign_24 : decode cX4_sign 24 = .ok (.ireturn, 1) := by decide +kernel
theorem dX4_digit_0 : decode cX4_digit 0 = .ok (.aload_n 0, 1) := by decide +kernel
theorem dX4_digit_1 : decode cX4_digit 1 = .ok (.iload_n 1, 1) := by decide +kernel
theorem dX4_digit_2 : decode cX4_digit 2 = .ok (.invokevirtual 27, 3) := by decide +kernel
theorem dX4_digit_5 : decode cX4_digit 5 = .ok (.istore_n 2, 1) := by decide +kernel
theorem dX4_digit_6 : decode cX4_digit 6 = .ok (.iload_n 2, 1) := by decide +kernel
theorem dX4_digit_7 : decode cX4_digit 7 = .ok (.bipush 48, 2) := by decide +kernel
theorem dX4_digit_9 : decode cX4_digit 9 = .ok (.if_icmp .lt 16, 3) := by decide +kernel
theorem dX4_digit_12 : decode cX4_digit 12 = .ok (.iload_n 2, 1) := by decide +kernel
theorem dX4_digit_13 : decode cX4_digit 13 = .ok (.bipush 57, 2) := by decide +kernel
theorem dX4_digit_15 : decode cX4_digit 15 = .ok (.if_icmp .gt 10, 3) := by decide +kernel
theorem dX4_digit_18 : decode cX4_digit 18 = .ok (.iload_n 2, 1) := by decide +kernel
theorem dX4_digit_19 : decode cX4_digit 19 = .ok (.bipush 48, 2) := by decide +kernel
theorem dX4_digit_21 : decode cX4_digit 21 = .ok (.isub, 1) := by decide +kernel
theorem dX4_digit_22 : decode cX4_digit 22 = .ok (.goto 5, 3) := by decide +kernel
theorem dX4_digit_25 : decode cX4_digit 25 = .ok (.bipush (-9), 2) := by decide +kernel
theorem dX4_digit_27 : decode cX4_digit 27 = .ok (.ireturn, 1) := by decide +kernel
theorem dX4_isDigit_0 : decode cX4_isDigit 0 = .ok (.aload_n 0, 1) := by decide +kernel
theorem dX4_isDigit_1 : decode cX4_isDigit 1 = .ok (.iload_n 1, 1) := by decide +kernel
theorem dX4_isDigit_2 : decode cX4_isDigit 2 = .ok (.invokevirtual 31, 3) := by decide +kernel
theorem dX4_isDigit_5 : decode cX4_isDigit 5 = .ok (.bipush (-9), 2) := by decide +kernel
theorem dX4_isDigit_7 : decode cX4_isDigit 7 = .ok (.if_icmp .eq 7, 3) := by decide +kernel
theorem dX4_isDigit_10 : decode cX4_isDigit 10 = .ok (.iconst 1, 1) := by decide +kernel
theorem dX4_isDigit_11 : decode cX4_isDigit 11 = .ok (.goto 4, 3) := by decide +kernel
theorem dX4_isDigit_14 : decode cX4_isDigit 14 = .ok (.iconst 0, 1) := by decide +kernel
theorem dX4_isDigit_15 : decode cX4_isDigit 15 = .ok (.ireturn, 1) := by decide +kernel
theorem dX4_value_0 : decode cX4_value 0 = .ok (.aload_n 0, 1) := by decide +kernel
theorem dX4_value_1 : decode cX4_value 1 = .ok (.iload_n 1, 1) := by decide +kernel
theorem dX4_value_2 : decode cX4_value 2 = .ok (.invokevirtual 31, 3) := by decide +kernel
theorem dX4_value_5 : decode cX4_value 5 = .ok (.istore_n 2, 1) := by decide +kernel
theorem dX4_value_6 : decode cX4_value 6 = .ok (.aload_n 0, 1) := by decide +kernel
theorem dX4_value_7 : decode cX4_value 7 = .ok (.iload_n 1, 1) := by decide +kernel
theorem dX4_value_8 : decode cX4_value 8 = .ok (.iconst 1, 1) := by decide +kernel
theorem dX4_value_9 : decode cX4_value 9 = .ok (.iadd, 1) := by decide +kernel
theorem dX4_value_10 : decode cX4_value 10 = .ok (.invokevirtual 31, 3) := by decide +kernel
theorem dX4_value_13 : decode cX4_value 13 = .ok (.istore_n 3, 1) := by decide +kernel
theorem dX4_value_14 : decode cX4_value 14 = .ok (.iload_n 3, 1) := by decide +kernel
theorem dX4_value_15 : decode cX4_value 15 = .ok (.bipush (-9), 2) := by decide +kernel
theorem dX4_value_17 : decode cX4_value 17 = .ok (.if_icmp .ne 7, 3) := by decide +kernel
theorem dX4_value_20 : decode cX4_value 20 = .ok (.iload_n 2, 1) := by decide +kernel
theorem dX4_value_21 : decode cX4_value 21 = .ok (.goto 9, 3) := by decide +kernel
theorem dX4_value_24 : decode cX4_value 24 = .ok (.bipush 10, 2) := by decide +kernel
theorem dX4_value_26 : decode cX4_value 26 = .ok (.iload_n 2, 1) := by decide +kernel
theorem dX4_value_27 : decode cX4_value 27 = .ok (.imul, 1) := by decide +kernel
theorem dX4_value_28 : decode cX4_value 28 = .ok (.iload_n 3, 1) := by decide +kernel
theorem dX4_value_29 : decode cX4_value 29 = .ok (.iadd, 1) := by decide +kernel
theorem dX4_value_30 : decode cX4_value 30 = .ok (.ireturn, 1) := by decide +kernel
theorem dX4_kind_0 : decode cX4_kind 0 = .ok (.aload_n 0, 1) := by decide +kernel
theorem dX4_kind_1 : decode cX4_kind 1 = .ok (.iload_n 1, 1) := by decide +kernel
theorem dX4_kind_2 : decode cX4_kind 2 = .ok (.iconst 1, 1) := by decide +kernel
theorem dX4_kind_3 : decode cX4_kind 3 = .ok (.iadd, 1) := by decide +kernel
theorem dX4_kind_4 : decode cX4_kind 4 = .ok (.invokevirtual 27, 3) := by decide +kernel
theorem dX4_kind_7 : decode cX4_kind 7 = .ok (.istore_n 2, 1) := by decide +kernel
theorem dX4_kind_8 : decode cX4_kind 8 = .ok (.iload_n 2, 1) := by decide +kernel
theorem dX4_kind_9 : decode cX4_kind 9 = .ok (.ifCond .ge 5, 3) := by decide +kernel
theorem dX4_kind_12 : decode cX4_kind 12 = .ok (.iconst (-1), 1) := by decide +kernel
theorem dX4_kind_13 : decode cX4_kind 13 = .ok (.ireturn, 1) := by decide +kernel
theorem dX4_kind_14 : decode cX4_kind 14 = .ok (.aload_n 0, 1) := by decide +kernel
theorem dX4_kind_15 : decode cX4_kind 15 = .ok (.iload_n 1, 1) := by decide +kernel
theorem dX4_kind_16 : decode cX4_kind 16 = .ok (.invokevirtual 27, 3) := by decide +kernel
theorem dX4_kind_19 : decode cX4_kind 19 = .ok (.bipush 115, 2) := by decide +kernel
theorem dX4_kind_21 : decode cX4_kind 21 = .ok (.if_icmp .ne 8, 3) := by decide +kernel
theorem dX4_kind_24 : decode cX4_kind 24 = .ok (.ldc 34, 2) := by decide +kernel
theorem dX4_kind_26 : decode cX4_kind 26 = .ok (.goto 5, 3) := by decide +kernel
theorem dX4_kind_29 : decode cX4_kind 29 = .ok (.ldc 36, 2) := by decide +kernel
theorem dX4_kind_31 : decode cX4_kind 31 = .ok (.iload_n 2, 1) := by decide +kernel
theorem dX4_kind_32 : decode cX4_kind 32 = .ok (.i2c, 1) := by decide +kernel
theorem dX4_kind_33 : decode cX4_kind 33 = .ok (.invokevirtual 38, 3) := by decide +kernel
theorem dX4_kind_36 : decode cX4_kind 36 = .ok (.ireturn, 1) := by decide +kernel
theorem dX4_faultPlace_0 : decode cX4_faultPlace 0 = .ok (.iconst 0, 1) := by decide +kernel
theorem dX4_faultPlace_1 : decode cX4_faultPlace 1 = .ok (.istore_n 1, 1) := by decide +kernel
theorem dX4_faultPlace_2 : decode cX4_faultPlace 2 = .ok (.iconst 0, 1) := by decide +kernel
theorem dX4_faultPlace_3 : decode cX4_faultPlace 3 = .ok (.istore_n 2, 1) := by decide +kernel
theorem dX4_faultPlace_4 : decode cX4_faultPlace 4 = .ok (.iload_n 2, 1) := by decide +kernel
theorem dX4_faultPlace_5 : decode cX4_faultPlace 5 = .ok (.bipush 96, 2) := by decide +kernel
theorem dX4_faultPlace_7 : decode cX4_faultPlace 7 = .ok (.if_icmp .gt 34, 3) := by decide +kernel
theorem dX4_faultPlace_10 : decode cX4_faultPlace 10 = .ok (.aload_n 0, 1) := by decide +kernel
theorem dX4_faultPlace_11 : decode cX4_faultPlace 11 = .ok (.iload_n 1, 1) := by decide +kernel
theorem dX4_faultPlace_12 : decode cX4_faultPlace 12 = .ok (.invokevirtual 43, 3) := by decide +kernel
theorem dX4_faultPlace_15 : decode cX4_faultPlace 15 = .ok (.istore_n 1, 1) := by decide +kernel
theorem dX4_faultPlace_16 : decode cX4_faultPlace 16 = .ok (.iload_n 1, 1) := by decide +kernel
theorem dX4_faultPlace_17 : decode cX4_faultPlace 17 = .ok (.ifCond .ge 7, 3) := by decide +kernel
theorem dX4_faultPlace_20 : decode cX4_faultPlace 20 = .ok (.iconst (-1), 1) := by decide +kernel
theorem dX4_faultPlace_21 : decode cX4_faultPlace 21 = .ok (.iload_n 1, 1) := by decide +kernel
theorem dX4_faultPlace_22 : decode cX4_faultPlace 22 = .ok (.isub, 1) := by decide +kernel
theorem dX4_faultPlace_23 : decode cX4_faultPlace 23 = .ok (.ireturn, 1) := by decide +kernel
theorem dX4_faultPlace_24 : decode cX4_faultPlace 24 = .ok (.iload_n 1, 1) := by decide +kernel
theorem dX4_faultPlace_25 : decode cX4_faultPlace 25 = .ok (.aload_n 0, 1) := by decide +kernel
theorem dX4_faultPlace_26 : decode cX4_faultPlace 26 = .ok (.getfield 15, 3) := by decide +kernel
theorem dX4_faultPlace_29 : decode cX4_faultPlace 29 = .ok (.if_icmp .lt 6, 3) := by decide +kernel
theorem dX4_faultPlace_32 : decode cX4_faultPlace 32 = .ok (.bipush (-9), 2) := by decide +kernel
theorem dX4_faultPlace_34 : decode cX4_faultPlace 34 = .ok (.ireturn, 1) := by decide +kernel
theorem dX4_faultPlace_35 : decode cX4_faultPlace 35 = .ok (.iinc 2 1, 3) := by decide +kernel
theorem dX4_faultPlace_38 : decode cX4_faultPlace 38 = .ok (.goto (-34), 3) := by decide +kernel
theorem dX4_faultPlace_41 : decode cX4_faultPlace 41 = .ok (.bipush (-9), 2) := by decide +kernel
theorem dX4_faultPlace_43 : decode cX4_faultPlace 43 = .ok (.ireturn, 1) := by decide +kernel
theorem dX4_behindStatement_0 : decode cX4_behindStatement 0 = .ok (.iload_n 1, 1) := by decide +kernel
theorem dX4_behindStatement_1 : decode cX4_behindStatement 1 = .ok (.iconst 1, 1) := by decide +kernel
theorem dX4_behindStatement_2 : decode cX4_behindStatement 2 = .ok (.iadd, 1) := by decide +kernel
theorem dX4_behindStatement_3 : decode cX4_behindStatement 3 = .ok (.istore_n 2, 1) := by decide +kernel
theorem dX4_behindStatement_4 : decode cX4_behindStatement 4 = .ok (.iconst 2, 1) := by decide +kernel
theorem dX4_behindStatement_5 : decode cX4_behindStatement 5 = .ok (.istore_n 3, 1) := by decide +kernel
theorem dX4_behindStatement_6 : decode cX4_behindStatement 6 = .ok (.aload_n 0, 1) := by decide +kernel
theorem dX4_behindStatement_7 : decode cX4_behindStatement 7 = .ok (.iload_n 1, 1) := by decide +kernel
theorem dX4_behindStatement_8 : decode cX4_behindStatement 8 = .ok (.invokevirtual 27, 3) := by decide +kernel
theorem dX4_behindStatement_11 : decode cX4_behindStatement 11 = .ok (.lookupswitch 75 #[(100, 49), (103, 49), (104, 52), (111, 70), (115, 52)], 49) := by decide +kernel
theorem dX4_behindStatement_60 : decode cX4_behindStatement 60 = .ok (.goto 30, 3) := by decide +kernel
theorem dX4_behindStatement_63 : decode cX4_behindStatement 63 = .ok (.aload_n 0, 1) := by decide +kernel
theorem dX4_behindStatement_64 : decode cX4_behindStatement 64 = .ok (.iload_n 1, 1) := by decide +kernel
theorem dX4_behindStatement_65 : decode cX4_behindStatement 65 = .ok (.invokevirtual 46, 3) := by decide +kernel
theorem dX4_behindStatement_68 : decode cX4_behindStatement 68 = .ok (.ifCond .ge 7, 3) := by decide +kernel
theorem dX4_behindStatement_71 : decode cX4_behindStatement 71 = .ok (.iconst (-1), 1) := by decide +kernel
theorem dX4_behindStatement_72 : decode cX4_behindStatement 72 = .ok (.iload_n 2, 1) := by decide +kernel
theorem dX4_behindStatement_73 : decode cX4_behindStatement 73 = .ok (.isub, 1) := by decide +kernel
theorem dX4_behindStatement_74 : decode cX4_behindStatement 74 = .ok (.ireturn, 1) := by decide +kernel
theorem dX4_behindStatement_75 : decode cX4_behindStatement 75 = .ok (.iinc 2 1, 3) := by decide +kernel
theorem dX4_behindStatement_78 : decode cX4_behindStatement 78 = .ok (.goto 12, 3) := by decide +kernel
theorem dX4_behindStatement_81 : decode cX4_behindStatement 81 = .ok (.iconst 1, 1) := by decide +kernel
theorem dX4_behindStatement_82 : decode cX4_behindStatement 82 = .ok (.istore_n 3, 1) := by decide +kernel
theorem dX4_behindStatement_83 : decode cX4_behindStatement 83 = .ok (.goto 7, 3) := by decide +kernel
theorem dX4_behindStatement_86 : decode cX4_behindStatement 86 = .ok (.iconst (-1), 1) := by decide +kernel
theorem dX4_behindStatement_87 : decode cX4_behindStatement 87 = .ok (.iload_n 1, 1) := by decide +kernel
theorem dX4_behindStatement_88 : decode cX4_behindStatement 88 = .ok (.isub, 1) := by decide +kernel
theorem dX4_behindStatement_89 : decode cX4_behindStatement 89 = .ok (.ireturn, 1) := by decide +kernel
theorem dX4_behindStatement_90 : decode cX4_behindStatement 90 = .ok (.iconst 0, 1) := by decide +kernel
theorem dX4_behindStatement_91 : decode cX4_behindStatement 91 = .ok (.istore 4, 2) := by decide +kernel
theorem dX4_behindStatement_93 : decode cX4_behindStatement 93 = .ok (.iload 4, 2) := by decide +kernel
theorem dX4_behindStatement_95 : decode cX4_behindStatement 95 = .ok (.iconst 2, 1) := by decide +kernel
theorem dX4_behindStatement_96 : decode cX4_behindStatement 96 = .ok (.if_icmp .ge 20, 3) := by decide +kernel
theorem dX4_behindStatement_99 : decode cX4_behindStatement 99 = .ok (.aload_n 0, 1) := by decide +kernel
theorem dX4_behindStatement_100 : decode cX4_behindStatement 100 = .ok (.iload_n 2, 1) := by decide +kernel
theorem dX4_behindStatement_101 : decode cX4_behindStatement 101 = .ok (.invokevirtual 49, 3) := by decide +kernel
theorem dX4_behindStatement_104 : decode cX4_behindStatement 104 = .ok (.ifCond .eq 12, 3) := by decide +kernel
theorem dX4_behindStatement_107 : decode cX4_behindStatement 107 = .ok (.iinc 4 1, 3) := by decide +kernel
theorem dX4_behindStatement_110 : decode cX4_behindStatement 110 = .ok (.iinc 2 1, 3) := by decide +kernel
theorem dX4_behindStatement_113 : decode cX4_behindStatement 113 = .ok (.goto (-20), 3) := by decide +kernel
theorem dX4_behindStatement_116 : decode cX4_behindStatement 116 = .ok (.iload 4, 2) := by decide +kernel
theorem dX4_behindStatement_118 : decode cX4_behindStatement 118 = .ok (.iload_n 3, 1) := by decide +kernel
theorem dX4_behindStatement_119 : decode cX4_behindStatement 119 = .ok (.if_icmp .lt 19, 3) := by decide +kernel
theorem dX4_behindStatement_122 : decode cX4_behindStatement 122 = .ok (.aload_n 0, 1) := by decide +kernel
theorem dX4_behindStatement_123 : decode cX4_behindStatement 123 = .ok (.iload_n 2, 1) := by decide +kernel
theorem dX4_behindStatement_124 : decode cX4_behindStatement 124 = .ok (.invokevirtual 27, 3) := by decide +kernel
theorem dX4_behindStatement_127 : decode cX4_behindStatement 127 = .ok (.bipush 59, 2) := by decide +kernel
theorem dX4_behindStatement_129 : decode cX4_behindStatement 129 = .ok (.if_icmp .ne 9, 3) := by decide +kernel
theorem dX4_behindStatement_132 : decode cX4_behindStatement 132 = .ok (.iload_n 2, 1) := by decide +kernel
theorem dX4_behindStatement_133 : decode cX4_behindStatement 133 = .ok (.iconst 1, 1) := by decide +kernel
theorem dX4_behindStatement_134 : decode cX4_behindStatement 134 = .ok (.iadd, 1) := by decide +kernel
theorem dX4_behindStatement_135 : decode cX4_behindStatement 135 = .ok (.goto 6, 3) := by decide +kernel
theorem dX4_behindStatement_138 : decode cX4_behindStatement 138 = .ok (.iconst (-1), 1) := by decide +kernel
theorem dX4_behindStatement_139 : decode cX4_behindStatement 139 = .ok (.iload_n 2, 1) := by decide +kernel
theorem dX4_behindStatement_140 : decode cX4_behindStatement 140 = .ok (.isub, 1) := by decide +kernel
theorem dX4_behindStatement_141 : decode cX4_behindStatement 141 = .ok (.ireturn, 1) := by decide +kernel
theorem dX5_init_0 : decode cX5_init 0 = .ok (.aload_n 0, 1) := by decide +kernel
theorem dX5_init_1 : decode cX5_init 1 = .ok (.invokespecial 1, 3) := by decide +kernel
theorem dX5_init_4 : decode cX5_init 4 = .ok (.aload_n 0, 1) := by decide +kernel
theorem dX5_init_5 : decode cX5_init 5 = .ok (.new 7, 3) := by decide +kernel
theorem dX5_init_8 : decode cX5_init 8 = .ok (.dup, 1) := by decide +kernel
theorem dX5_init_9 : decode cX5_init 9 = .ok (.invokespecial 9, 3) := by decide +kernel
theorem dX5_init_12 : decode cX5_init 12 = .ok (.putfield 10, 3) := by decide +kernel
theorem dX5_init_15 : decode cX5_init 15 = .ok (.aload_n 0, 1) := by decide +kernel
theorem dX5_init_16 : decode cX5_init 16 = .ok (.new 7, 3) := by decide +kernel
theorem dX5_init_19 : decode cX5_init 19 = .ok (.dup, 1) := by decide +kernel
theorem dX5_init_20 : decode cX5_init 20 = .ok (.invokespecial 9, 3) := by decide +kernel
theorem dX5_init_23 : decode cX5_init 23 = .ok (.putfield 16, 3) := by decide +kernel
theorem dX5_init_26 : decode cX5_init 26 = .ok (.aload_n 0, 1) := by decide +kernel
theorem dX5_init_27 : decode cX5_init 27 = .ok (.new 7, 3) := by decide +kernel
theorem dX5_init_30 : decode cX5_init 30 = .ok (.dup, 1) := by decide +kernel
theorem dX5_init_31 : decode cX5_init 31 = .ok (.invokespecial 9, 3) := by decide +kernel
theorem dX5_init_34 : decode cX5_init 34 = .ok (.putfield 19, 3) := by decide +kernel
theorem dX5_init_37 : decode cX5_init 37 = .ok (.aload_n 0, 1) := by decide +kernel
theorem dX5_init_38 : decode cX5_init 38 = .ok (.iconst 0, 1) := by decide +kernel
theorem dX5_init_39 : decode cX5_init 39 = .ok (.putfield 22, 3) := by decide +kernel
theorem dX5_init_42 : decode cX5_init 42 = .ok (.aload_n 0, 1) := by decide +kernel
theorem dX5_init_43 : decode cX5_init 43 = .ok (.new 26, 3) := by decide +kernel
theorem dX5_init_46 : decode cX5_init 46 = .ok (.dup, 1) := by decide +kernel
theorem dX5_init_47 : decode cX5_init 47 = .ok (.invokespecial 28, 3) := by decide +kernel
theorem dX5_init_50 : decode cX5_init 50 = .ok (.putfield 29, 3) := by decide +kernel
theorem dX5_init_53 : decode cX5_init 53 = .ok (.aload_n 0, 1) := by decide +kernel
theorem dX5_init_54 : decode cX5_init 54 = .ok (.bipush 6, 2) := by decide +kernel
theorem dX5_init_56 : decode cX5_init 56 = .ok (.newarray .int, 2) := by decide +kernel
theorem dX5_init_58 : decode cX5_init 58 = .ok (.putfield 33, 3) := by decide +kernel
theorem dX5_init_61 : decode cX5_init 61 = .ok (.aload_n 0, 1) := by decide +kernel
theorem dX5_init_62 : decode cX5_init 62 = .ok (.iconst 0, 1) := by decide +kernel
theorem dX5_init_63 : decode cX5_init 63 = .ok (.putfield 37, 3) := by decide +kernel
theorem dX5_init_66 : decode cX5_init 66 = .ok (.aload_n 0, 1) := by decide +kernel
theorem dX5_init_67 : decode cX5_init 67 = .ok (.bipush 7, 2) := by decide +kernel
theorem dX5_init_69 : decode cX5_init 69 = .ok (.newarray .int, 2) := by decide +kernel
theorem dX5_init_71 : decode cX5_init 71 = .ok (.putfield 41, 3) := by decide +kernel
theorem dX5_init_74 : decode cX5_init 74 = .ok (.return_, 1) := by decide +kernel
theorem dX5_letter_0 : decode cX5_letter 0 = .ok (.iload_n 1, 1) := by decide +kernel
theorem dX5_letter_1 : decode cX5_letter 1 = .ok (.iconst 0, 1) := by decide +kernel
theorem dX5_letter_2 : decode cX5_letter 2 = .ok (.sipush 255, 3) := by decide +kernel
theorem dX5_letter_5 : decode cX5_letter 5 = .ok (.invokestatic 44, 3) := by decide +kernel
theorem dX5_letter_8 : decode cX5_letter 8 = .ok (.istore_n 2, 1) := by decide +kernel
theorem dX5_letter_9 : decode cX5_letter 9 = .ok (.iload_n 2, 1) := by decide +kernel
theorem dX5_letter_10 : decode cX5_letter 10 = .ok (.ifCond .eq 9, 3) := by decide +kernel
theorem dX5_letter_13 : decode cX5_letter 13 = .ok (.aload_n 0, 1) := by decide +kernel
theorem dX5_letter_14 : decode cX5_letter 14 = .ok (.iload_n 2, 1) := by decide +kernel
theorem dX5_letter_15 : decode cX5_letter 15 = .ok (.invokevirtual 48, 3) := by decide +kernel
theorem dX5_letter_18 : decode cX5_letter 18 = .ok (.ireturn, 1) := by decide +kernel
theorem dX5_letter_19 : decode cX5_letter 19 = .ok (.aload_n 0, 1) := by decide +kernel
theorem dX5_letter_20 : decode cX5_letter 20 = .ok (.getfield 29, 3) := by decide +kernel
theorem dX5_letter_23 : decode cX5_letter 23 = .ok (.invokevirtual 52, 3) := by decide +kernel
theorem dX5_letter_26 : decode cX5_letter 26 = .ok (.ifCond .eq 10, 3) := by decide +kernel
theorem dX5_letter_29 : decode cX5_letter 29 = .ok (.aload_n 0, 1) := by decide +kernel
theorem dX5_letter_30 : decode cX5_letter 30 = .ok (.bipush (-6), 2) := by decide +kernel
theorem dX5_letter_32 : decode cX5_letter 32 = .ok (.invokevirtual 48, 3) := by decide +kernel
theorem dX5_letter_35 : decode cX5_letter 35 = .ok (.ireturn, 1) := by decide +kernel
theorem dX5_letter_36 : decode cX5_letter 36 = .ok (.aload_n 0, 1) := by decide +kernel
theorem dX5_letter_37 : decode cX5_letter 37 = .ok (.getfield 29, 3) := by decide +kernel
theorem dX5_letter_40 : decode cX5_letter 40 = .ok (.iload_n 1, 1) := by decide +kernel
theorem dX5_letter_41 : decode cX5_letter 41 = .ok (.invokevirtual 56, 3) := by decide +kernel
theorem dX5_letter_44 : decode cX5_letter 44 = .ok (.aload_n 0, 1) := by decide +kernel
theorem dX5_letter_45 : decode cX5_letter 45 = .ok (.getfield 29, 3) := by decide +kernel
theorem dX5_letter_48 : decode cX5_letter 48 = .ok (.getfield 60, 3) := by decide +kernel
theorem dX5_letter_51 : decode cX5_letter 51 = .ok (.ireturn, 1) := by decide +kernel
theorem dX5_office_0 : decode cX5_office 0 = .ok (.aload_n 0, 1) := by decide +kernel
theorem dX5_office_1 : decode cX5_office 1 = .ok (.getfield 29, 3) := by decide +kernel
theorem dX5_office_4 : decode cX5_office 4 = .ok (.invokevirtual 63, 3) := by decide +kernel
theorem dX5_office_7 : decode cX5_office 7 = .ok (.istore_n 1, 1) := by decide +kernel
theorem dX5_office_8 : decode cX5_office 8 = .ok (.iload_n 1, 1) := by decide +kernel
theorem dX5_office_9 : decode cX5_office 9 = .ok (.bipush (-9), 2) := by decide +kernel
theorem dX5_office_11 : decode cX5_office 11 = .ok (.if_icmp .ne 10, 3) := by decide +kernel
theorem dX5_office_14 : decode cX5_office 14 = .ok (.aload_n 0, 1) := by decide +kernel
theorem dX5_office_15 : decode cX5_office 15 = .ok (.invokevirtual 67, 3) := by decide +kernel
theorem dX5_office_18 : decode cX5_office 18 = .ok (.goto 8, 3) := by decide +kernel
theorem dX5_office_21 : decode cX5_office 21 = .ok (.sipush (-1000), 3) := by decide +kernel
theorem dX5_office_24 : decode cX5_office 24 = .ok (.iload_n 1, 1) := by decide +kernel
theorem dX5_office_25 : decode cX5_office 25 = .ok (.isub, 1) := by decide +kernel
theorem dX5_office_26 : decode cX5_office 26 = .ok (.istore_n 2, 1) := by decide +kernel
theorem dX5_office_27 : decode cX5_office 27 = .ok (.aload_n 0, 1) := by decide +kernel
theorem dX5_office_28 : decode cX5_office 28 = .ok (.getfield 29, 3) := by decide +kernel
theorem dX5_office_31 : decode cX5_office 31 = .ok (.iconst 0, 1) := by decide +kernel
theorem dX5_office_32 : decode cX5_office 32 = .ok (.putfield 60, 3) := by decide +kernel
theorem dX5_office_35 : decode cX5_office 35 = .ok (.iload_n 2, 1) := by decide +kernel
theorem dX5_office_36 : decode cX5_office 36 = .ok (.ireturn, 1) := by decide +kernel
theorem dX5_song_0 : decode cX5_song 0 = .ok (.aload_n 0, 1) := by decide +kernel
theorem dX5_song_1 : decode cX5_song 1 = .ok (.getfield 10, 3) := by decide +kernel
theorem dX5_song_4 : decode cX5_song 4 = .ok (.getfield 70, 3) := by decide +kernel
theorem dX5_song_7 : decode cX5_song 7 = .ok (.iload_n 1, 1) := by decide +kernel
theorem dX5_song_8 : decode cX5_song 8 = .ok (.invokevirtual 74, 3) := by decide +kernel
theorem dX5_song_11 : decode cX5_song 11 = .ok (.ifCond .ne 9, 3) := by decide +kernel
theorem dX5_song_14 : decode cX5_song 14 = .ok (.aload_n 0, 1) := by decide +kernel
theorem dX5_song_15 : decode cX5_song 15 = .ok (.iconst (-1), 1) := by decide +kernel
theorem dX5_song_16 : decode cX5_song 16 = .ok (.invokevirtual 48, 3) := by decide +kernel
theorem dX5_song_19 : decode cX5_song 19 = .ok (.ireturn, 1) := by decide +kernel
theorem dX5_song_20 : decode cX5_song 20 = .ok (.iload_n 2, 1) := by decide +kernel
theorem dX5_song_21 : decode cX5_song 21 = .ok (.tableswitch 104 0 4 #[35, 50, 65, 80, 92], 35) := by decide +kernel
theorem dX5_song_56 : decode cX5_song 56 = .ok (.aload_n 0, 1) := by decide +kernel
theorem dX5_song_57 : decode cX5_song 57 = .ok (.getfield 10, 3) := by decide +kernel
theorem dX5_song_60 : decode cX5_song 60 = .ok (.getfield 70, 3) := by decide +kernel
theorem dX5_song_63 : decode cX5_song 63 = .ok (.getfield 80, 3) := by decide +kernel
theorem dX5_song_66 : decode cX5_song 66 = .ok (.iload_n 1, 1) := by decide +kernel
theorem dX5_song_67 : decode cX5_song 67 = .ok (.invokestatic 83, 3) := by decide +kernel
theorem dX5_song_70 : decode cX5_song 70 = .ok (.ireturn, 1) := by decide +kernel
theorem dX5_song_71 : decode cX5_song 71 = .ok (.aload_n 0, 1) := by decide +kernel
theorem dX5_song_72 : decode cX5_song 72 = .ok (.getfield 10, 3) := by decide +kernel
theorem dX5_song_75 : decode cX5_song 75 = .ok (.getfield 70, 3) := by decide +kernel
theorem dX5_song_78 : decode cX5_song 78 = .ok (.getfield 87, 3) := by decide +kernel
theorem dX5_song_81 : decode cX5_song 81 = .ok (.iload_n 1, 1) := by decide +kernel
theorem dX5_song_82 : decode cX5_song 82 = .ok (.invokestatic 83, 3) := by decide +kernel
theorem dX5_song_85 : decode cX5_song 85 = .ok (.ireturn, 1) := by decide +kernel
theorem dX5_song_86 : decode cX5_song 86 = .ok (.aload_n 0, 1) := by decide +kernel
theorem dX5_song_87 : decode cX5_song 87 = .ok (.getfield 10, 3) := by decide +kernel
theorem dX5_song_90 : decode cX5_song 90 = .ok (.getfield 70, 3) := by decide +kernel
theorem dX5_song_93 : decode cX5_song 93 = .ok (.getfield 90, 3) := by decide +kernel
theorem dX5_song_96 : decode cX5_song 96 = .ok (.iload_n 1, 1) := by decide +kernel
theorem dX5_song_97 : decode cX5_song 97 = .ok (.invokestatic 83, 3) := by decide +kernel
theorem dX5_song_100 : decode cX5_song 100 = .ok (.ireturn, 1) := by decide +kernel
theorem dX5_song_101 : decode cX5_song 101 = .ok (.aload_n 0, 1) := by decide +kernel
theorem dX5_song_102 : decode cX5_song 102 = .ok (.getfield 10, 3) := by decide +kernel
theorem dX5_song_105 : decode cX5_song 105 = .ok (.getfield 70, 3) := by decide +kernel
theorem dX5_song_108 : decode cX5_song 108 = .ok (.iload_n 1, 1) := by decide +kernel
theorem dX5_song_109 : decode cX5_song 109 = .ok (.invokevirtual 93, 3) := by decide +kernel
theorem dX5_song_112 : decode cX5_song 112 = .ok (.ireturn, 1) := by decide +kernel
theorem dX5_song_113 : decode cX5_song 113 = .ok (.aload_n 0, 1) := by decide +kernel
theorem dX5_song_114 : decode cX5_song 114 = .ok (.getfield 10, 3) := by decide +kernel
theorem dX5_song_117 : decode cX5_song 117 = .ok (.getfield 96, 3) := by decide +kernel
theorem dX5_song_120 : decode cX5_song 120 = .ok (.iload_n 1, 1) := by decide +kernel
theorem dX5_song_121 : decode cX5_song 121 = .ok (.invokevirtual 100, 3) := by decide +kernel
theorem dX5_song_124 : decode cX5_song 124 = .ok (.ireturn, 1) := by decide +kernel
theorem dX5_song_125 : decode cX5_song 125 = .ok (.aload_n 0, 1) := by decide +kernel
theorem dX5_song_126 : decode cX5_song 126 = .ok (.bipush (-2), 2) := by decide +kernel
theorem dX5_song_128 : decode cX5_song 128 = .ok (.invokevirtual 48, 3) := by decide +kernel
theorem dX5_song_131 : decode cX5_song 131 = .ok (.ireturn, 1) := by decide +kernel
theorem dX5_head_0 : decode cX5_head 0 = .ok (.aload_n 0, 1) := by decide +kernel
theorem dX5_head_1 : decode cX5_head 1 = .ok (.getfield 10, 3) := by decide +kernel
theorem dX5_head_4 : decode cX5_head 4 = .ok (.getfield 96, 3) := by decide +kernel
theorem dX5_head_7 : decode cX5_head 7 = .ok (.iload_n 1, 1) := by decide +kernel
theorem dX5_head_8 : decode cX5_head 8 = .ok (.invokevirtual 105, 3) := by decide +kernel
theorem dX5_head_11 : decode cX5_head 11 = .ok (.ifCond .ne 9, 3) := by decide +kernel
theorem dX5_head_14 : decode cX5_head 14 = .ok (.aload_n 0, 1) := by decide +kernel
theorem dX5_head_15 : decode cX5_head 15 = .ok (.iconst (-1), 1) := by decide +kernel
theorem dX5_head_16 : decode cX5_head 16 = .ok (.invokevirtual 48, 3) := by decide +kernel
theorem dX5_head_19 : decode cX5_head 19 = .ok (.ireturn, 1) := by decide +kernel
theorem dX5_head_20 : decode cX5_head 20 = .ok (.iload_n 2, 1) := by decide +kernel
theorem dX5_head_21 : decode cX5_head 21 = .ok (.tableswitch 183 0 7 #[47, 62, 77, 92, 107, 122, 137, 149], 47) := by decide +kernel
theorem dX5_head_68 : decode cX5_head 68 = .ok (.aload_n 0, 1) := by decide +kernel
theorem dX5_head_69 : decode cX5_head 69 = .ok (.getfield 10, 3) := by decide +kernel
theorem dX5_head_72 : decode cX5_head 72 = .ok (.getfield 96, 3) := by decide +kernel
theorem dX5_head_75 : decode cX5_head 75 = .ok (.getfield 106, 3) := by decide +kernel
theorem dX5_head_78 : decode cX5_head 78 = .ok (.iload_n 1, 1) := by decide +kernel
theorem dX5_head_79 : decode cX5_head 79 = .ok (.invokestatic 83, 3) := by decide +kernel
theorem dX5_head_82 : decode cX5_head 82 = .ok (.ireturn, 1) := by decide +kernel
theorem dX5_head_83 : decode cX5_head 83 = .ok (.aload_n 0, 1) := by decide +kernel
theorem dX5_head_84 : decode cX5_head 84 = .ok (.getfield 10, 3) := by decide +kernel
theorem dX5_head_87 : decode cX5_head 87 = .ok (.getfield 96, 3) := by decide +kernel
theorem dX5_head_90 : decode cX5_head 90 = .ok (.getfield 107, 3) := by decide +kernel
theorem dX5_head_93 : decode cX5_head 93 = .ok (.iload_n 1, 1) := by decide +kernel
theorem dX5_head_94 : decode cX5_head 94 = .ok (.invokestatic 83, 3) := by decide +kernel
theorem dX5_head_97 : decode cX5_head 97 = .ok (.ireturn, 1) := by decide +kernel
theorem dX5_head_98 : decode cX5_head 98 = .ok (.aload_n 0, 1) := by decide +kernel
theorem dX5_head_99 : decode cX5_head 99 = .ok (.getfield 10, 3) := by decide +kernel
theorem dX5_head_102 : decode cX5_head 102 = .ok (.getfield 96, 3) := by decide +kernel
theorem dX5_head_105 : decode cX5_head 105 = .ok (.getfield 110, 3) := by decide +kernel
theorem dX5_head_108 : decode cX5_head 108 = .ok (.iload_n 1, 1) := by decide +kernel
theorem dX5_head_109 : decode cX5_head 109 = .ok (.invokestatic 83, 3) := by decide +kernel
theorem dX5_head_112 : decode cX5_head 112 = .ok (.ireturn, 1) := by decide +kernel
theorem dX5_head_113 : decode cX5_head 113 = .ok (.aload_n 0, 1) := by decide +kernel
theorem dX5_head_114 : decode cX5_head 114 = .ok (.getfield 10, 3) := by decide +kernel
theorem dX5_head_117 : decode cX5_head 117 = .ok (.getfield 96, 3) := by decide +kernel
theorem dX5_head_120 : decode cX5_head 120 = .ok (.getfield 113, 3) := by decide +kernel
theorem dX5_head_123 : decode cX5_head 123 = .ok (.iload_n 1, 1) := by decide +kernel
theorem dX5_head_124 : decode cX5_head 124 = .ok (.invokestatic 83, 3) := by decide +kernel
theorem dX5_head_127 : decode cX5_head 127 = .ok (.ireturn, 1) := by decide +kernel
theorem dX5_head_128 : decode cX5_head 128 = .ok (.aload_n 0, 1) := by decide +kernel
theorem dX5_head_129 : decode cX5_head 129 = .ok (.getfield 10, 3) := by decide +kernel
theorem dX5_head_132 : decode cX5_head 132 = .ok (.getfield 96, 3) := by decide +kernel
theorem dX5_head_135 : decode cX5_head 135 = .ok (.getfield 116, 3) := by decide +kernel
theorem dX5_head_138 : decode cX5_head 138 = .ok (.iload_n 1, 1) := by decide +kernel
theorem dX5_head_139 : decode cX5_head 139 = .ok (.invokestatic 83, 3) := by decide +kernel
theorem dX5_head_142 : decode cX5_head 142 = .ok (.ireturn, 1) := by decide +kernel
theorem dX5_head_143 : decode cX5_head 143 = .ok (.aload_n 0, 1) := by decide +kernel
theorem dX5_head_144 : decode cX5_head 144 = .ok (.getfield 10, 3) := by decide +kernel
theorem dX5_head_147 : decode cX5_head 147 = .ok (.getfield 96, 3) := by decide +kernel
theorem dX5_head_150 : decode cX5_head 150 = .ok (.getfield 119, 3) := by decide +kernel
theorem dX5_head_153 : decode cX5_head 153 = .ok (.iload_n 1, 1) := by decide +kernel
theorem dX5_head_154 : decode cX5_head 154 = .ok (.invokestatic 83, 3) := by decide +kernel
theorem dX5_head_157 : decode cX5_head 157 = .ok (.ireturn, 1) := by decide +kernel
theorem dX5_head_158 : decode cX5_head 158 = .ok (.aload_n 0, 1) := by decide +kernel
theorem dX5_head_159 : decode cX5_head 159 = .ok (.getfield 10, 3) := by decide +kernel
theorem dX5_head_162 : decode cX5_head 162 = .ok (.getfield 96, 3) := by decide +kernel
theorem dX5_head_165 : decode cX5_head 165 = .ok (.iload_n 1, 1) := by decide +kernel
theorem dX5_head_166 : decode cX5_head 166 = .ok (.invokevirtual 122, 3) := by decide +kernel
theorem dX5_head_169 : decode cX5_head 169 = .ok (.ireturn, 1) := by decide +kernel
theorem dX5_head_170 : decode cX5_head 170 = .ok (.aload_n 0, 1) := by decide +kernel
theorem dX5_head_171 : decode cX5_head 171 = .ok (.getfield 10, 3) := by decide +kernel
theorem dX5_head_174 : decode cX5_head 174 = .ok (.getfield 96, 3) := by decide +kernel
theorem dX5_head_177 : decode cX5_head 177 = .ok (.iload_n 1, 1) := by decide +kernel
theorem dX5_head_178 : decode cX5_head 178 = .ok (.aload_n 0, 1) := by decide +kernel
theorem dX5_head_179 : decode cX5_head 179 = .ok (.getfield 10, 3) := by decide +kernel
theorem dX5_head_182 : decode cX5_head 182 = .ok (.getfield 125, 3) := by decide +kernel
theorem dX5_head_185 : decode cX5_head 185 = .ok (.aload_n 0, 1) := by decide +kernel
theorem dX5_head_186 : decode cX5_head 186 = .ok (.getfield 10, 3) := by decide +kernel
theorem dX5_head_189 : decode cX5_head 189 = .ok (.getfield 128, 3) := by decide +kernel
theorem dX5_head_192 : decode cX5_head 192 = .ok (.invokevirtual 131, 3) := by decide +kernel
theorem dX5_head_195 : decode cX5_head 195 = .ok (.ifCond .eq 7, 3) := by decide +kernel
theorem dX5_head_198 : decode cX5_head 198 = .ok (.iconst 1, 1) := by decide +kernel
theorem dX5_head_199 : decode cX5_head 199 = .ok (.goto 4, 3) := by decide +kernel
theorem dX5_head_202 : decode cX5_head 202 = .ok (.iconst 0, 1) := by decide +kernel
theorem dX5_head_203 : decode cX5_head 203 = .ok (.ireturn, 1) := by decide +kernel
theorem dX5_head_204 : decode cX5_head 204 = .ok (.aload_n 0, 1) := by decide +kernel
theorem dX5_head_205 : decode cX5_head 205 = .ok (.bipush (-2), 2) := by decide +kernel
theorem dX5_head_207 : decode cX5_head 207 = .ok (.invokevirtual 48, 3) := by decide +kernel
theorem dX5_head_210 : decode cX5_head 210 = .ok (.ireturn, 1) := by decide +kernel
theorem dX5_near_0 : decode cX5_near 0 = .ok (.aload_n 0, 1) := by decide +kernel
theorem dX5_near_1 : decode cX5_near 1 = .ok (.getfield 10, 3) := by decide +kernel
theorem dX5_near_4 : decode cX5_near 4 = .ok (.getfield 96, 3) := by decide +kernel
theorem dX5_near_7 : decode cX5_near 7 = .ok (.iload_n 1, 1) := by decide +kernel
theorem dX5_near_8 : decode cX5_near 8 = .ok (.invokevirtual 105, 3) := by decide +kernel
theorem dX5_near_11 : decode cX5_near 11 = .ok (.ifCond .ne 9, 3) := by decide +kernel
theorem dX5_near_14 : decode cX5_near 14 = .ok (.aload_n 0, 1) := by decide +kernel
theorem dX5_near_15 : decode cX5_near 15 = .ok (.iconst (-1), 1) := by decide +kernel
theorem dX5_near_16 : decode cX5_near 16 = .ok (.invokevirtual 48, 3) := by decide +kernel
theorem dX5_near_19 : decode cX5_near 19 = .ok (.ireturn, 1) := by decide +kernel
theorem dX5_near_20 : decode cX5_near 20 = .ok (.aload_n 0, 1) := by decide +kernel
theorem dX5_near_21 : decode cX5_near 21 = .ok (.getfield 10, 3) := by decide +kernel
theorem dX5_near_24 : decode cX5_near 24 = .ok (.iload_n 1, 1) := by decide +kernel
theorem dX5_near_25 : decode cX5_near 25 = .ok (.invokevirtual 135, 3) := by decide +kernel
theorem dX5_near_28 : decode cX5_near 28 = .ok (.ireturn, 1) := by decide +kernel
theorem dX5_door_0 : decode cX5_door 0 = .ok (.aload_n 0, 1) := by decide +kernel
theorem dX5_door_1 : decode cX5_door 1 = .ok (.getfield 10, 3) := by decide +kernel
theorem dX5_door_4 : decode cX5_door 4 = .ok (.getfield 138, 3) := by decide +kernel
theorem dX5_door_7 : decode cX5_door 7 = .ok (.iload_n 1, 1) := by decide +kernel
theorem dX5_door_8 : decode cX5_door 8 = .ok (.invokevirtual 142, 3) := by decide +kernel
theorem dX5_door_11 : decode cX5_door 11 = .ok (.ifCond .ne 9, 3) := by decide +kernel
theorem dX5_door_14 : decode cX5_door 14 = .ok (.aload_n 0, 1) := by decide +kernel
theorem dX5_door_15 : decode cX5_door 15 = .ok (.iconst (-1), 1) := by decide +kernel
theorem dX5_door_16 : decode cX5_door 16 = .ok (.invokevirtual 48, 3) := by decide +kernel
theorem dX5_door_19 : decode cX5_door 19 = .ok (.ireturn, 1) := by decide +kernel
theorem dX5_door_20 : decode cX5_door 20 = .ok (.aload_n 0, 1) := by decide +kernel
theorem dX5_door_21 : decode cX5_door 21 = .ok (.getfield 10, 3) := by decide +kernel
theorem dX5_door_24 : decode cX5_door 24 = .ok (.getfield 138, 3) := by decide +kernel
theorem dX5_door_27 : decode cX5_door 27 = .ok (.iload_n 1, 1) := by decide +kernel
theorem dX5_door_28 : decode cX5_door 28 = .ok (.invokevirtual 145, 3) := by decide +kernel
theorem dX5_door_31 : decode cX5_door 31 = .ok (.ireturn, 1) := by decide +kernel
theorem dX5_go_0 : decode cX5_go 0 = .ok (.aload_n 0, 1) := by decide +kernel
theorem dX5_go_1 : decode cX5_go 1 = .ok (.getfield 10, 3) := by decide +kernel
theorem dX5_go_4 : decode cX5_go 4 = .ok (.getfield 96, 3) := by decide +kernel
theorem dX5_go_7 : decode cX5_go 7 = .ok (.iload_n 1, 1) := by decide +kernel
theorem dX5_go_8 : decode cX5_go 8 = .ok (.invokevirtual 105, 3) := by decide +kernel
theorem dX5_go_11 : decode cX5_go 11 = .ok (.ifCond .eq 10, 3) := by decide +kernel
theorem dX5_go_14 : decode cX5_go 14 = .ok (.iload_n 2, 1) := by decide +kernel
theorem dX5_go_15 : decode cX5_go 15 = .ok (.invokestatic 148, 3) := by decide +kernel
theorem dX5_go_18 : decode cX5_go 18 = .ok (.ifCond .ne 9, 3) := by decide +kernel
theorem dX5_go_21 : decode cX5_go 21 = .ok (.aload_n 0, 1) := by decide +kernel
theorem dX5_go_22 : decode cX5_go 22 = .ok (.iconst (-1), 1) := by decide +kernel
theorem dX5_go_23 : decode cX5_go 23 = .ok (.invokevirtual 48, 3) := by decide +kernel
theorem dX5_go_26 : decode cX5_go 26 = .ok (.ireturn, 1) := by decide +kernel
theorem dX5_go_27 : decode cX5_go 27 = .ok (.aload_n 0, 1) := by decide +kernel
theorem dX5_go_28 : decode cX5_go 28 = .ok (.getfield 10, 3) := by decide +kernel
theorem dX5_go_31 : decode cX5_go 31 = .ok (.getfield 96, 3) := by decide +kernel
theorem dX5_go_34 : decode cX5_go 34 = .ok (.getfield 107, 3) := by decide +kernel
theorem dX5_go_37 : decode cX5_go 37 = .ok (.iload_n 1, 1) := by decide +kernel
theorem dX5_go_38 : decode cX5_go 38 = .ok (.invokestatic 83, 3) := by decide +kernel
theorem dX5_go_41 : decode cX5_go 41 = .ok (.istore_n 3, 1) := by decide +kernel
theorem dX5_go_42 : decode cX5_go 42 = .ok (.aload_n 0, 1) := by decide +kernel
theorem dX5_go_43 : decode cX5_go 43 = .ok (.getfield 10, 3) := by decide +kernel
theorem dX5_go_46 : decode cX5_go 46 = .ok (.getfield 96, 3) := by decide +kernel
theorem dX5_go_49 : decode cX5_go 49 = .ok (.getfield 107, 3) := by decide +kernel
theorem dX5_go_52 : decode cX5_go 52 = .ok (.iload_n 1, 1) := by decide +kernel
theorem dX5_go_53 : decode cX5_go 53 = .ok (.iload_n 2, 1) := by decide +kernel
theorem dX5_go_54 : decode cX5_go 54 = .ok (.invokestatic 151, 3) := by decide +kernel
theorem dX5_go_57 : decode cX5_go 57 = .ok (.iload_n 3, 1) := by decide +kernel
theorem dX5_go_58 : decode cX5_go 58 = .ok (.ireturn, 1) := by decide +kernel
theorem dX5_get_0 : decode cX5_get 0 = .ok (.aload_n 0, 1) := by decide +kernel
theorem dX5_get_1 : decode cX5_get 1 = .ok (.getfield 10, 3) := by decide +kernel
theorem dX5_get_4 : decode cX5_get 4 = .ok (.getfield 96, 3) := by decide +kernel
theorem dX5_get_7 : decode cX5_get 7 = .ok (.iload_n 1, 1) := by decide +kernel
theorem dX5_get_8 : decode cX5_get 8 = .ok (.invokevirtual 105, 3) := by decide +kernel
theorem dX5_get_11 : decode cX5_get 11 = .ok (.ifCond .eq 22, 3) := by decide +kernel
theorem dX5_get_14 : decode cX5_get 14 = .ok (.iload_n 2, 1) := by decide +kernel
theorem dX5_get_15 : decode cX5_get 15 = .ok (.iconst (-1), 1) := by decide +kernel
theorem dX5_get_16 : decode cX5_get 16 = .ok (.if_icmp .eq 23, 3) := by decide +kernel
theorem dX5_get_19 : decode cX5_get 19 = .ok (.aload_n 0, 1) := by decide +kernel
theorem dX5_get_20 : decode cX5_get 20 = .ok (.getfield 10, 3) := by decide +kernel
theorem dX5_get_23 : decode cX5_get 23 = .ok (.getfield 70, 3) := by decide +kernel
theorem dX5_get_26 : decode cX5_get 26 = .ok (.iload_n 2, 1) := by decide +kernel
theorem dX5_get_27 : decode cX5_get 27 = .ok (.invokevirtual 74, 3) := by decide +kernel
theorem dX5_get_30 : decode cX5_get 30 = .ok (.ifCond .ne 9, 3) := by decide +kernel
theorem dX5_get_33 : decode cX5_get 33 = .ok (.aload_n 0, 1) := by decide +kernel
theorem dX5_get_34 : decode cX5_get 34 = .ok (.iconst (-1), 1) := by decide +kernel
theorem dX5_get_35 : decode cX5_get 35 = .ok (.invokevirtual 48, 3) := by decide +kernel
theorem dX5_get_38 : decode cX5_get 38 = .ok (.ireturn, 1) := by decide +kernel
theorem dX5_get_39 : decode cX5_get 39 = .ok (.aload_n 0, 1) := by decide +kernel
theorem dX5_get_40 : decode cX5_get 40 = .ok (.getfield 10, 3) := by decide +kernel
theorem dX5_get_43 : decode cX5_get 43 = .ok (.getfield 96, 3) := by decide +kernel
theorem dX5_get_46 : decode cX5_get 46 = .ok (.getfield 113, 3) := by decide +kernel
theorem dX5_get_49 : decode cX5_get 49 = .ok (.iload_n 1, 1) := by decide +kernel
theorem dX5_get_50 : decode cX5_get 50 = .ok (.invokestatic 83, 3) := by decide +kernel
theorem dX5_get_53 : decode cX5_get 53 = .ok (.istore_n 3, 1) := by decide +kernel
theorem dX5_get_54 : decode cX5_get 54 = .ok (.aload_n 0, 1) := by decide +kernel
theorem dX5_get_55 : decode cX5_get 55 = .ok (.getfield 10, 3) := by decide +kernel
theorem dX5_get_58 : decode cX5_get 58 = .ok (.iload_n 1, 1) := by decide +kernel
theorem dX5_get_59 : decode cX5_get 59 = .ok (.iload_n 2, 1) := by decide +kernel
theorem dX5_get_60 : decode cX5_get 60 = .ok (.invokevirtual 155, 3) := by decide +kernel
theorem dX5_get_63 : decode cX5_get 63 = .ok (.iload_n 3, 1) := by decide +kernel
theorem dX5_get_64 : decode cX5_get 64 = .ok (.ireturn, 1) := by decide +kernel
theorem dX5_remedy_0 : decode cX5_remedy 0 = .ok (.aload_n 0, 1) := by decide +kernel
theorem dX5_remedy_1 : decode cX5_remedy 1 = .ok (.getfield 10, 3) := by decide +kernel
theorem dX5_remedy_4 : decode cX5_remedy 4 = .ok (.getfield 96, 3) := by decide +kernel
theorem dX5_remedy_7 : decode cX5_remedy 7 = .ok (.iload_n 1, 1) := by decide +kernel
theorem dX5_remedy_8 : decode cX5_remedy 8 = .ok (.invokevirtual 105, 3) := by decide +kernel
theorem dX5_remedy_11 : decode cX5_remedy 11 = .ok (.ifCond .ne 9, 3) := by decide +kernel
theorem dX5_remedy_14 : decode cX5_remedy 14 = .ok (.aload_n 0, 1) := by decide +kernel
theorem dX5_remedy_15 : decode cX5_remedy 15 = .ok (.iconst (-1), 1) := by decide +kernel
theorem dX5_remedy_16 : decode cX5_remedy 16 = .ok (.invokevirtual 48, 3) := by decide +kernel
theorem dX5_remedy_19 : decode cX5_remedy 19 = .ok (.ireturn, 1) := by decide +kernel
theorem dX5_remedy_20 : decode cX5_remedy 20 = .ok (.iload_n 2, 1) := by decide +kernel
theorem dX5_remedy_21 : decode cX5_remedy 21 = .ok (.ifCond .lt 8, 3) := by decide +kernel
theorem dX5_remedy_24 : decode cX5_remedy 24 = .ok (.iload_n 2, 1) := by decide +kernel
theorem dX5_remedy_25 : decode cX5_remedy 25 = .ok (.iconst 3, 1) := by decide +kernel
theorem dX5_remedy_26 : decode cX5_remedy 26 = .ok (.if_icmp .lt 10, 3) := by decide +kernel
theorem dX5_remedy_29 : decode cX5_remedy 29 = .ok (.aload_n 0, 1) := by decide +kernel
theorem dX5_remedy_30 : decode cX5_remedy 30 = .ok (.bipush (-2), 2) := by decide +kernel
theorem dX5_remedy_32 : decode cX5_remedy 32 = .ok (.invokevirtual 48, 3) := by decide +kernel
theorem dX5_remedy_35 : decode cX5_remedy 35 = .ok (.ireturn, 1) := by decide +kernel
theorem dX5_remedy_36 : decode cX5_remedy 36 = .ok (.iload_n 2, 1) := by decide +kernel
theorem dX5_remedy_37 : decode cX5_remedy 37 = .ok (.iconst 2, 1) := by decide +kernel
theorem dX5_remedy_38 : decode cX5_remedy 38 = .ok (.if_icmp .eq 24, 3) := by decide +kernel
theorem dX5_remedy_41 : decode cX5_remedy 41 = .ok (.aload_n 0, 1) := by decide +kernel
theorem dX5_remedy_42 : decode cX5_remedy 42 = .ok (.getfield 10, 3) := by decide +kernel
theorem dX5_remedy_45 : decode cX5_remedy 45 = .ok (.getfield 96, 3) := by decide +kernel
theorem dX5_remedy_48 : decode cX5_remedy 48 = .ok (.iload_n 1, 1) := by decide +kernel
theorem dX5_remedy_49 : decode cX5_remedy 49 = .ok (.invokevirtual 159, 3) := by decide +kernel
theorem dX5_remedy_52 : decode cX5_remedy 52 = .ok (.ifCond .ne 10, 3) := by decide +kernel
theorem dX5_remedy_55 : decode cX5_remedy 55 = .ok (.aload_n 0, 1) := by decide +kernel
theorem dX5_remedy_56 : decode cX5_remedy 56 = .ok (.bipush (-3), 2) := by decide +kernel
theorem dX5_remedy_58 : decode cX5_remedy 58 = .ok (.invokevirtual 48, 3) := by decide +kernel
theorem dX5_remedy_61 : decode cX5_remedy 61 = .ok (.ireturn, 1) := by decide +kernel
theorem dX5_remedy_62 : decode cX5_remedy 62 = .ok (.aload_n 0, 1) := by decide +kernel
theorem dX5_remedy_63 : decode cX5_remedy 63 = .ok (.getfield 10, 3) := by decide +kernel
theorem dX5_remedy_66 : decode cX5_remedy 66 = .ok (.getfield 96, 3) := by decide +kernel
theorem dX5_remedy_69 : decode cX5_remedy 69 = .ok (.iload_n 1, 1) := by decide +kernel
theorem dX5_remedy_70 : decode cX5_remedy 70 = .ok (.iload_n 2, 1) := by decide +kernel
theorem dX5_remedy_71 : decode cX5_remedy 71 = .ok (.invokevirtual 162, 3) := by decide +kernel
theorem dX5_remedy_74 : decode cX5_remedy 74 = .ok (.aload_n 0, 1) := by decide +kernel
theorem dX5_remedy_75 : decode cX5_remedy 75 = .ok (.getfield 10, 3) := by decide +kernel
theorem dX5_remedy_78 : decode cX5_remedy 78 = .ok (.getfield 96, 3) := by decide +kernel
theorem dX5_remedy_81 : decode cX5_remedy 81 = .ok (.getfield 116, 3) := by decide +kernel
theorem dX5_remedy_84 : decode cX5_remedy 84 = .ok (.iload_n 1, 1) := by decide +kernel
theorem dX5_remedy_85 : decode cX5_remedy 85 = .ok (.invokestatic 83, 3) := by decide +kernel
theorem dX5_remedy_88 : decode cX5_remedy 88 = .ok (.ireturn, 1) := by decide +kernel
theorem dX5_loud_0 : decode cX5_loud 0 = .ok (.iload_n 1, 1) := by decide +kernel
theorem dX5_loud_1 : decode cX5_loud 1 = .ok (.iconst 1, 1) := by decide +kernel
theorem dX5_loud_2 : decode cX5_loud 2 = .ok (.bipush 20, 2) := by decide +kernel
theorem dX5_loud_4 : decode cX5_loud 4 = .ok (.invokestatic 44, 3) := by decide +kernel
theorem dX5_loud_7 : decode cX5_loud 7 = .ok (.istore_n 2, 1) := by decide +kernel
theorem dX5_loud_8 : decode cX5_loud 8 = .ok (.iload_n 2, 1) := by decide +kernel
theorem dX5_loud_9 : decode cX5_loud 9 = .ok (.ifCond .eq 9, 3) := by decide +kernel
theorem dX5_loud_12 : decode cX5_loud 12 = .ok (.aload_n 0, 1) := by decide +kernel
theorem dX5_loud_13 : decode cX5_loud 13 = .ok (.iload_n 2, 1) := by decide +kernel
theorem dX5_loud_14 : decode cX5_loud 14 = .ok (.invokevirtual 48, 3) := by decide +kernel
theorem dX5_loud_17 : decode cX5_loud 17 = .ok (.ireturn, 1) := by decide +kernel
theorem dX5_loud_18 : decode cX5_loud 18 = .ok (.aload_n 0, 1) := by decide +kernel
theorem dX5_loud_19 : decode cX5_loud 19 = .ok (.getfield 10, 3) := by decide +kernel
theorem dX5_loud_22 : decode cX5_loud 22 = .ok (.getfield 125, 3) := by decide +kernel
theorem dX5_loud_25 : decode cX5_loud 25 = .ok (.istore_n 3, 1) := by decide +kernel
theorem dX5_loud_26 : decode cX5_loud 26 = .ok (.aload_n 0, 1) := by decide +kernel
theorem dX5_loud_27 : decode cX5_loud 27 = .ok (.getfield 10, 3) := by decide +kernel
theorem dX5_loud_30 : decode cX5_loud 30 = .ok (.iload_n 1, 1) := by decide +kernel
theorem dX5_loud_31 : decode cX5_loud 31 = .ok (.putfield 125, 3) := by decide +kernel
theorem dX5_loud_34 : decode cX5_loud 34 = .ok (.iload_n 3, 1) := by decide +kernel
theorem dX5_loud_35 : decode cX5_loud 35 = .ok (.ireturn, 1) := by decide +kernel
theorem dX5_hour_0 : decode cX5_hour 0 = .ok (.aload_n 0, 1) := by decide +kernel
theorem dX5_hour_1 : decode cX5_hour 1 = .ok (.getfield 10, 3) := by decide +kernel
theorem dX5_hour_4 : decode cX5_hour 4 = .ok (.getfield 128, 3) := by decide +kernel
theorem dX5_hour_7 : decode cX5_hour 7 = .ok (.sipush 999, 3) := by decide +kernel
theorem dX5_hour_10 : decode cX5_hour 10 = .ok (.if_icmp .lt 10, 3) := by decide +kernel
theorem dX5_hour_13 : decode cX5_hour 13 = .ok (.aload_n 0, 1) := by decide +kernel
theorem dX5_hour_14 : decode cX5_hour 14 = .ok (.bipush (-6), 2) := by decide +kernel
theorem dX5_hour_16 : decode cX5_hour 16 = .ok (.invokevirtual 48, 3) := by decide +kernel
theorem dX5_hour_19 : decode cX5_hour 19 = .ok (.ireturn, 1) := by decide +kernel
theorem dX5_hour_20 : decode cX5_hour 20 = .ok (.aload_n 0, 1) := by decide +kernel
theorem dX5_hour_21 : decode cX5_hour 21 = .ok (.getfield 10, 3) := by decide +kernel
theorem dX5_hour_24 : decode cX5_hour 24 = .ok (.invokevirtual 165, 3) := by decide +kernel
theorem dX5_hour_27 : decode cX5_hour 27 = .ok (.ireturn, 1) := by decide +kernel
theorem dX5_hold_0 : decode cX5_hold 0 = .ok (.aload_n 0, 1) := by decide +kernel
theorem dX5_hold_1 : decode cX5_hold 1 = .ok (.iload_n 1, 1) := by decide +kernel
theorem dX5_hold_2 : decode cX5_hold 2 = .ok (.iload_n 2, 1) := by decide +kernel
theorem dX5_hold_3 : decode cX5_hold 3 = .ok (.invokevirtual 168, 3) := by decide +kernel
theorem dX5_hold_6 : decode cX5_hold 6 = .ok (.istore 4, 2) := by decide +kernel
theorem dX5_hold_8 : decode cX5_hold 8 = .ok (.iload 4, 2) := by decide +kernel
theorem dX5_hold_10 : decode cX5_hold 10 = .ok (.ifCond .ne 14, 3) := by decide +kernel
theorem dX5_hold_13 : decode cX5_hold 13 = .ok (.iload_n 3, 1) := by decide +kernel
theorem dX5_hold_14 : decode cX5_hold 14 = .ok (.invokestatic 172, 3) := by decide +kernel
theorem dX5_hold_17 : decode cX5_hold 17 = .ok (.ifCond .eq 7, 3) := by decide +kernel
theorem dX5_hold_20 : decode cX5_hold 20 = .ok (.bipush (-2), 2) := by decide +kernel
theorem dX5_hold_22 : decode cX5_hold 22 = .ok (.istore 4, 2) := by decide +kernel
theorem dX5_hold_24 : decode cX5_hold 24 = .ok (.iload 4, 2) := by decide +kernel
theorem dX5_hold_26 : decode cX5_hold 26 = .ok (.ifCond .eq 10, 3) := by decide +kernel
theorem dX5_hold_29 : decode cX5_hold 29 = .ok (.aload_n 0, 1) := by decide +kernel
theorem dX5_hold_30 : decode cX5_hold 30 = .ok (.iload 4, 2) := by decide +kernel
theorem dX5_hold_32 : decode cX5_hold 32 = .ok (.invokevirtual 48, 3) := by decide +kernel
theorem dX5_hold_35 : decode cX5_hold 35 = .ok (.ireturn, 1) := by decide +kernel
theorem dX5_hold_36 : decode cX5_hold 36 = .ok (.aload_n 0, 1) := by decide +kernel
theorem dX5_hold_37 : decode cX5_hold 37 = .ok (.iload_n 2, 1) := by decide +kernel
theorem dX5_hold_38 : decode cX5_hold 38 = .ok (.invokevirtual 175, 3) := by decide +kernel
theorem dX5_hold_41 : decode cX5_hold 41 = .ok (.iload_n 3, 1) := by decide +kernel
theorem dX5_hold_42 : decode cX5_hold 42 = .ok (.ifCond .ne 20, 3) := by decide +kernel
theorem dX5_hold_45 : decode cX5_hold 45 = .ok (.aload_n 0, 1) := by decide +kernel
theorem dX5_hold_46 : decode cX5_hold 46 = .ok (.getfield 16, 3) := by decide +kernel
theorem dX5_hold_49 : decode cX5_hold 49 = .ok (.getfield 96, 3) := by decide +kernel
theorem dX5_hold_52 : decode cX5_hold 52 = .ok (.getfield 113, 3) := by decide +kernel
theorem dX5_hold_55 : decode cX5_hold 55 = .ok (.iload_n 1, 1) := by decide +kernel
theorem dX5_hold_56 : decode cX5_hold 56 = .ok (.invokestatic 83, 3) := by decide +kernel
theorem dX5_hold_59 : decode cX5_hold 59 = .ok (.goto 17, 3) := by decide +kernel
theorem dX5_hold_62 : decode cX5_hold 62 = .ok (.aload_n 0, 1) := by decide +kernel
theorem dX5_hold_63 : decode cX5_hold 63 = .ok (.getfield 16, 3) := by decide +kernel
theorem dX5_hold_66 : decode cX5_hold 66 = .ok (.getfield 96, 3) := by decide +kernel
theorem dX5_hold_69 : decode cX5_hold 69 = .ok (.getfield 116, 3) := by decide +kernel
theorem dX5_hold_72 : decode cX5_hold 72 = .ok (.iload_n 1, 1) := by decide +kernel
theorem dX5_hold_73 : decode cX5_hold 73 = .ok (.invokestatic 83, 3) := by decide +kernel
theorem dX5_hold_76 : decode cX5_hold 76 = .ok (.ireturn, 1) := by decide +kernel
theorem dX5_have_0 : decode cX5_have 0 = .ok (.aload_n 0, 1) := by decide +kernel
theorem dX5_have_1 : decode cX5_have 1 = .ok (.iload_n 1, 1) := by decide +kernel
theorem dX5_have_2 : decode cX5_have 2 = .ok (.iload_n 2, 1) := by decide +kernel
theorem dX5_have_3 : decode cX5_have 3 = .ok (.invokevirtual 178, 3) := by decide +kernel
theorem dX5_have_6 : decode cX5_have 6 = .ok (.istore_n 3, 1) := by decide +kernel
theorem dX5_have_7 : decode cX5_have 7 = .ok (.iload_n 3, 1) := by decide +kernel
theorem dX5_have_8 : decode cX5_have 8 = .ok (.ifCond .eq 9, 3) := by decide +kernel
theorem dX5_have_11 : decode cX5_have 11 = .ok (.aload_n 0, 1) := by decide +kernel
theorem dX5_have_12 : decode cX5_have 12 = .ok (.iload_n 3, 1) := by decide +kernel
theorem dX5_have_13 : decode cX5_have 13 = .ok (.invokevirtual 48, 3) := by decide +kernel
theorem dX5_have_16 : decode cX5_have 16 = .ok (.ireturn, 1) := by decide +kernel
theorem dX5_have_17 : decode cX5_have 17 = .ok (.aload_n 0, 1) := by decide +kernel
theorem dX5_have_18 : decode cX5_have 18 = .ok (.iload_n 2, 1) := by decide +kernel
theorem dX5_have_19 : decode cX5_have 19 = .ok (.invokevirtual 175, 3) := by decide +kernel
theorem dX5_have_22 : decode cX5_have 22 = .ok (.aload_n 0, 1) := by decide +kernel
theorem dX5_have_23 : decode cX5_have 23 = .ok (.getfield 16, 3) := by decide +kernel
theorem dX5_have_26 : decode cX5_have 26 = .ok (.getfield 96, 3) := by decide +kernel
theorem dX5_have_29 : decode cX5_have 29 = .ok (.iload_n 1, 1) := by decide +kernel
theorem dX5_have_30 : decode cX5_have 30 = .ok (.invokevirtual 100, 3) := by decide +kernel
theorem dX5_have_33 : decode cX5_have 33 = .ok (.ireturn, 1) := by decide +kernel
theorem dX5_takes_0 : decode cX5_takes 0 = .ok (.aload_n 0, 1) := by decide +kernel
theorem dX5_takes_1 : decode cX5_takes 1 = .ok (.getfield 10, 3) := by decide +kernel
theorem dX5_takes_4 : decode cX5_takes 4 = .ok (.getfield 96, 3) := by decide +kernel
theorem dX5_takes_7 : decode cX5_takes 7 = .ok (.iload_n 1, 1) := by decide +kernel
theorem dX5_takes_8 : decode cX5_takes 8 = .ok (.invokevirtual 105, 3) := by decide +kernel
theorem dX5_takes_11 : decode cX5_takes 11 = .ok (.ifCond .eq 17, 3) := by decide +kernel
theorem dX5_takes_14 : decode cX5_takes 14 = .ok (.aload_n 0, 1) := by decide +kernel
theorem dX5_takes_15 : decode cX5_takes 15 = .ok (.getfield 10, 3) := by decide +kernel
theorem dX5_takes_18 : decode cX5_takes 18 = .ok (.getfield 70, 3) := by decide +kernel
theorem dX5_takes_21 : decode cX5_takes 21 = .ok (.iload_n 2, 1) := by decide +kernel
theorem dX5_takes_22 : decode cX5_takes 22 = .ok (.invokevirtual 74, 3) := by decide +kernel
theorem dX5_takes_25 : decode cX5_takes 25 = .ok (.ifCond .ne 9, 3) := by decide +kernel
theorem dX5_takes_28 : decode cX5_takes 28 = .ok (.aload_n 0, 1) := by decide +kernel
theorem dX5_takes_29 : decode cX5_takes 29 = .ok (.iconst (-1), 1) := by decide +kernel
theorem dX5_takes_30 : decode cX5_takes 30 = .ok (.invokevirtual 48, 3) := by decide +kernel
theorem dX5_takes_33 : decode cX5_takes 33 = .ok (.ireturn, 1) := by decide +kernel
theorem dX5_takes_34 : decode cX5_takes 34 = .ok (.aload_n 0, 1) := by decide +kernel
theorem dX5_takes_35 : decode cX5_takes 35 = .ok (.getfield 16, 3) := by decide +kernel
theorem dX5_takes_38 : decode cX5_takes 38 = .ok (.aload_n 0, 1) := by decide +kernel
theorem dX5_takes_39 : decode cX5_takes 39 = .ok (.getfield 10, 3) := by decide +kernel
theorem dX5_takes_42 : decode cX5_takes 42 = .ok (.invokevirtual 181, 3) := by decide +kernel
theorem dX5_takes_45 : decode cX5_takes 45 = .ok (.iconst 0, 1) := by decide +kernel
theorem dX5_takes_46 : decode cX5_takes 46 = .ok (.istore_n 3, 1) := by decide +kernel
theorem dX5_takes_47 : decode cX5_takes 47 = .ok (.iload_n 3, 1) := by decide +kernel
theorem dX5_takes_48 : decode cX5_takes 48 = .ok (.bipush 60, 2) := by decide +kernel
theorem dX5_takes_50 : decode cX5_takes 50 = .ok (.if_icmp .gt 37, 3) := by decide +kernel
theorem dX5_takes_53 : decode cX5_takes 53 = .ok (.aload_n 0, 1) := by decide +kernel
theorem dX5_takes_54 : decode cX5_takes 54 = .ok (.getfield 16, 3) := by decide +kernel
theorem dX5_takes_57 : decode cX5_takes 57 = .ok (.getfield 96, 3) := by decide +kernel
theorem dX5_takes_60 : decode cX5_takes 60 = .ok (.getfield 113, 3) := by decide +kernel
theorem dX5_takes_63 : decode cX5_takes 63 = .ok (.iload_n 1, 1) := by decide +kernel
theorem dX5_takes_64 : decode cX5_takes 64 = .ok (.invokestatic 83, 3) := by decide +kernel
theorem dX5_takes_67 : decode cX5_takes 67 = .ok (.iload_n 2, 1) := by decide +kernel
theorem dX5_takes_68 : decode cX5_takes 68 = .ok (.if_icmp .ne 5, 3) := by decide +kernel
theorem dX5_takes_71 : decode cX5_takes 71 = .ok (.iload_n 3, 1) := by decide +kernel
theorem dX5_takes_72 : decode cX5_takes 72 = .ok (.ireturn, 1) := by decide +kernel
theorem dX5_takes_73 : decode cX5_takes 73 = .ok (.aload_n 0, 1) := by decide +kernel
theorem dX5_takes_74 : decode cX5_takes 74 = .ok (.getfield 16, 3) := by decide +kernel
theorem dX5_takes_77 : decode cX5_takes 77 = .ok (.invokevirtual 165, 3) := by decide +kernel
theorem dX5_takes_80 : decode cX5_takes 80 = .ok (.pop, 1) := by decide +kernel
theorem dX5_takes_81 : decode cX5_takes 81 = .ok (.iinc 3 1, 3) := by decide +kernel
theorem dX5_takes_84 : decode cX5_takes 84 = .ok (.goto (-37), 3) := by decide +kernel
theorem dX5_takes_87 : decode cX5_takes 87 = .ok (.bipush (-9), 2) := by decide +kernel
theorem dX5_takes_89 : decode cX5_takes 89 = .ok (.ireturn, 1) := by decide +kernel
theorem dX5_still_0 : decode cX5_still 0 = .ok (.aload_n 0, 1) := by decide +kernel
theorem dX5_still_1 : decode cX5_still 1 = .ok (.getfield 16, 3) := by decide +kernel
theorem dX5_still_4 : decode cX5_still 4 = .ok (.aload_n 0, 1) := by decide +kernel
theorem dX5_still_5 : decode cX5_still 5 = .ok (.getfield 10, 3) := by decide +kernel
theorem dX5_still_8 : decode cX5_still 8 = .ok (.invokevirtual 181, 3) := by decide +kernel
theorem dX5_still_11 : decode cX5_still 11 = .ok (.iconst 0, 1) := by decide +kernel
theorem dX5_still_12 : decode cX5_still 12 = .ok (.istore_n 1, 1) := by decide +kernel
theorem dX5_still_13 : decode cX5_still 13 = .ok (.iload_n 1, 1) := by decide +kernel
theorem dX5_still_14 : decode cX5_still 14 = .ok (.bipush 60, 2) := by decide +kernel
theorem dX5_still_16 : decode cX5_still 16 = .ok (.if_icmp .gt 33, 3) := by decide +kernel
theorem dX5_still_19 : decode cX5_still 19 = .ok (.aload_n 0, 1) := by decide +kernel
theorem dX5_still_20 : decode cX5_still 20 = .ok (.getfield 16, 3) := by decide +kernel
theorem dX5_still_23 : decode cX5_still 23 = .ok (.getfield 96, 3) := by decide +kernel
theorem dX5_still_26 : decode cX5_still 26 = .ok (.iconst (-1), 1) := by decide +kernel
theorem dX5_still_27 : decode cX5_still 27 = .ok (.invokevirtual 100, 3) := by decide +kernel
theorem dX5_still_30 : decode cX5_still 30 = .ok (.ifCond .ne 5, 3) := by decide +kernel
theorem dX5_still_33 : decode cX5_still 33 = .ok (.iload_n 1, 1) := by decide +kernel
theorem dX5_still_34 : decode cX5_still 34 = .ok (.ireturn, 1) := by decide +kernel
theorem dX5_still_35 : decode cX5_still 35 = .ok (.aload_n 0, 1) := by decide +kernel
theorem dX5_still_36 : decode cX5_still 36 = .ok (.getfield 16, 3) := by decide +kernel
theorem dX5_still_39 : decode cX5_still 39 = .ok (.invokevirtual 165, 3) := by decide +kernel
theorem dX5_still_42 : decode cX5_still 42 = .ok (.pop, 1) := by decide +kernel
theorem dX5_still_43 : decode cX5_still 43 = .ok (.iinc 1 1, 3) := by decide +kernel
theorem dX5_still_46 : decode cX5_still 46 = .ok (.goto (-33), 3) := by decide +kernel
theorem dX5_still_49 : decode cX5_still 49 = .ok (.bipush (-9), 2) := by decide +kernel
theorem dX5_still_51 : decode cX5_still 51 = .ok (.ireturn, 1) := by decide +kernel
theorem dX5_most_0 : decode cX5_most 0 = .ok (.aload_n 0, 1) := by decide +kernel
theorem dX5_most_1 : decode cX5_most 1 = .ok (.iload_n 1, 1) := by decide +kernel
theorem dX5_most_2 : decode cX5_most 2 = .ok (.iload_n 2, 1) := by decide +kernel
theorem dX5_most_3 : decode cX5_most 3 = .ok (.invokevirtual 178, 3) := by decide +kernel
theorem dX5_most_6 : decode cX5_most 6 = .ok (.istore 4, 2) := by decide +kernel
theorem dX5_most_8 : decode cX5_most 8 = .ok (.iload 4, 2) := by decide +kernel
theorem dX5_most_10 : decode cX5_most 10 = .ok (.ifCond .ne 14, 3) := by decide +kernel
theorem dX5_most_13 : decode cX5_most 13 = .ok (.iload_n 3, 1) := by decide +kernel
theorem dX5_most_14 : decode cX5_most 14 = .ok (.invokestatic 172, 3) := by decide +kernel
theorem dX5_most_17 : decode cX5_most 17 = .ok (.ifCond .eq 7, 3) := by decide +kernel
theorem dX5_most_20 : decode cX5_most 20 = .ok (.bipush (-2), 2) := by decide +kernel
theorem dX5_most_22 : decode cX5_most 22 = .ok (.istore 4, 2) := by decide +kernel
theorem dX5_most_24 : decode cX5_most 24 = .ok (.iload 4, 2) := by decide +kernel
theorem dX5_most_26 : decode cX5_most 26 = .ok (.ifCond .eq 10, 3) := by decide +kernel
theorem dX5_most_29 : decode cX5_most 29 = .ok (.aload_n 0, 1) := by decide +kernel
theorem dX5_most_30 : decode cX5_most 30 = .ok (.iload 4, 2) := by decide +kernel
theorem dX5_most_32 : decode cX5_most 32 = .ok (.invokevirtual 48, 3) := by decide +kernel
theorem dX5_most_35 : decode cX5_most 35 = .ok (.ireturn, 1) := by decide +kernel
theorem dX5_most_36 : decode cX5_most 36 = .ok (.aload_n 0, 1) := by decide +kernel
theorem dX5_most_37 : decode cX5_most 37 = .ok (.getfield 16, 3) := by decide +kernel
theorem dX5_most_40 : decode cX5_most 40 = .ok (.aload_n 0, 1) := by decide +kernel
theorem dX5_most_41 : decode cX5_most 41 = .ok (.getfield 10, 3) := by decide +kernel
theorem dX5_most_44 : decode cX5_most 44 = .ok (.invokevirtual 181, 3) := by decide +kernel
theorem dX5_most_47 : decode cX5_most 47 = .ok (.aload_n 0, 1) := by decide +kernel
theorem dX5_most_48 : decode cX5_most 48 = .ok (.getfield 16, 3) := by decide +kernel
theorem dX5_most_51 : decode cX5_most 51 = .ok (.getfield 96, 3) := by decide +kernel
theorem dX5_most_54 : decode cX5_most 54 = .ok (.iload_n 1, 1) := by decide +kernel
theorem dX5_most_55 : decode cX5_most 55 = .ok (.invokevirtual 100, 3) := by decide +kernel
theorem dX5_most_58 : decode cX5_most 58 = .ok (.istore 5, 2) := by decide +kernel
theorem dX5_most_60 : decode cX5_most 60 = .ok (.iconst 0, 1) := by decide +kernel
theorem dX5_most_61 : decode cX5_most 61 = .ok (.istore 6, 2) := by decide +kernel
theorem dX5_most_63 : decode cX5_most 63 = .ok (.iconst 1, 1) := by decide +kernel
theorem dX5_most_64 : decode cX5_most 64 = .ok (.istore 7, 2) := by decide +kernel
theorem dX5_most_66 : decode cX5_most 66 = .ok (.iload 7, 2) := by decide +kernel
theorem dX5_most_68 : decode cX5_most 68 = .ok (.iload_n 2, 1) := by decide +kernel
theorem dX5_most_69 : decode cX5_most 69 = .ok (.if_icmp .gt 45, 3) := by decide +kernel
theorem dX5_most_72 : decode cX5_most 72 = .ok (.aload_n 0, 1) := by decide +kernel
theorem dX5_most_73 : decode cX5_most 73 = .ok (.getfield 16, 3) := by decide +kernel
theorem dX5_most_76 : decode cX5_most 76 = .ok (.invokevirtual 165, 3) := by decide +kernel
theorem dX5_most_79 : decode cX5_most 79 = .ok (.pop, 1) := by decide +kernel
theorem dX5_most_80 : decode cX5_most 80 = .ok (.aload_n 0, 1) := by decide +kernel
theorem dX5_most_81 : decode cX5_most 81 = .ok (.getfield 16, 3) := by decide +kernel
theorem dX5_most_84 : decode cX5_most 84 = .ok (.getfield 96, 3) := by decide +kernel
theorem dX5_most_87 : decode cX5_most 87 = .ok (.iload_n 1, 1) := by decide +kernel
theorem dX5_most_88 : decode cX5_most 88 = .ok (.invokevirtual 100, 3) := by decide +kernel
theorem dX5_most_91 : decode cX5_most 91 = .ok (.istore 8, 2) := by decide +kernel
theorem dX5_most_93 : decode cX5_most 93 = .ok (.iload 8, 2) := by decide +kernel
theorem dX5_most_95 : decode cX5_most 95 = .ok (.iload 5, 2) := by decide +kernel
theorem dX5_most_97 : decode cX5_most 97 = .ok (.if_icmp .le 11, 3) := by decide +kernel
theorem dX5_most_100 : decode cX5_most 100 = .ok (.iload 8, 2) := by decide +kernel
theorem dX5_most_102 : decode cX5_most 102 = .ok (.istore 5, 2) := by decide +kernel
theorem dX5_most_104 : decode cX5_most 104 = .ok (.iload 7, 2) := by decide +kernel
theorem dX5_most_106 : decode cX5_most 106 = .ok (.istore 6, 2) := by decide +kernel
theorem dX5_most_108 : decode cX5_most 108 = .ok (.iinc 7 1, 3) := by decide +kernel
theorem dX5_most_111 : decode cX5_most 111 = .ok (.goto (-45), 3) := by decide +kernel
theorem dX5_most_114 : decode cX5_most 114 = .ok (.iload_n 3, 1) := by decide +kernel
theorem dX5_most_115 : decode cX5_most 115 = .ok (.ifCond .ne 8, 3) := by decide +kernel
theorem dX5_most_118 : decode cX5_most 118 = .ok (.iload 6, 2) := by decide +kernel
theorem dX5_most_120 : decode cX5_most 120 = .ok (.goto 5, 3) := by decide +kernel
theorem dX5_most_123 : decode cX5_most 123 = .ok (.iload 5, 2) := by decide +kernel
theorem dX5_most_125 : decode cX5_most 125 = .ok (.ireturn, 1) := by decide +kernel
theorem dX5_lasts_0 : decode cX5_lasts 0 = .ok (.iload_n 1, 1) := by decide +kernel
theorem dX5_lasts_1 : decode cX5_lasts 1 = .ok (.iconst 0, 1) := by decide +kernel
theorem dX5_lasts_2 : decode cX5_lasts 2 = .ok (.bipush 60, 2) := by decide +kernel
theorem dX5_lasts_4 : decode cX5_lasts 4 = .ok (.invokestatic 44, 3) := by decide +kernel
theorem dX5_lasts_7 : decode cX5_lasts 7 = .ok (.istore_n 2, 1) := by decide +kernel
theorem dX5_lasts_8 : decode cX5_lasts 8 = .ok (.iload_n 2, 1) := by decide +kernel
theorem dX5_lasts_9 : decode cX5_lasts 9 = .ok (.ifCond .eq 9, 3) := by decide +kernel
theorem dX5_lasts_12 : decode cX5_lasts 12 = .ok (.aload_n 0, 1) := by decide +kernel
theorem dX5_lasts_13 : decode cX5_lasts 13 = .ok (.iload_n 2, 1) := by decide +kernel
theorem dX5_lasts_14 : decode cX5_lasts 14 = .ok (.invokevirtual 48, 3) := by decide +kernel
theorem dX5_lasts_17 : decode cX5_lasts 17 = .ok (.ireturn, 1) := by decide +kernel
theorem dX5_lasts_18 : decode cX5_lasts 18 = .ok (.aload_n 0, 1) := by decide +kernel
theorem dX5_lasts_19 : decode cX5_lasts 19 = .ok (.iload_n 1, 1) := by decide +kernel
theorem dX5_lasts_20 : decode cX5_lasts 20 = .ok (.invokevirtual 175, 3) := by decide +kernel
theorem dX5_lasts_23 : decode cX5_lasts 23 = .ok (.iconst 0, 1) := by decide +kernel
theorem dX5_lasts_24 : decode cX5_lasts 24 = .ok (.istore_n 3, 1) := by decide +kernel
theorem dX5_lasts_25 : decode cX5_lasts 25 = .ok (.bipush (-9), 2) := by decide +kernel
theorem dX5_lasts_27 : decode cX5_lasts 27 = .ok (.istore 4, 2) := by decide +kernel
theorem dX5_lasts_29 : decode cX5_lasts 29 = .ok (.iconst 0, 1) := by decide +kernel
theorem dX5_lasts_30 : decode cX5_lasts 30 = .ok (.istore 5, 2) := by decide +kernel
theorem dX5_lasts_32 : decode cX5_lasts 32 = .ok (.iload 5, 2) := by decide +kernel
theorem dX5_lasts_34 : decode cX5_lasts 34 = .ok (.aload_n 0, 1) := by decide +kernel
theorem dX5_lasts_35 : decode cX5_lasts 35 = .ok (.getfield 16, 3) := by decide +kernel
theorem dX5_lasts_38 : decode cX5_lasts 38 = .ok (.getfield 70, 3) := by decide +kernel
theorem dX5_lasts_41 : decode cX5_lasts 41 = .ok (.getfield 185, 3) := by decide +kernel
theorem dX5_lasts_44 : decode cX5_lasts 44 = .ok (.if_icmp .ge 36, 3) := by decide +kernel
theorem dX5_lasts_47 : decode cX5_lasts 47 = .ok (.aload_n 0, 1) := by decide +kernel
theorem dX5_lasts_48 : decode cX5_lasts 48 = .ok (.getfield 16, 3) := by decide +kernel
theorem dX5_lasts_51 : decode cX5_lasts 51 = .ok (.getfield 96, 3) := by decide +kernel
theorem dX5_lasts_54 : decode cX5_lasts 54 = .ok (.iload 5, 2) := by decide +kernel
theorem dX5_lasts_56 : decode cX5_lasts 56 = .ok (.invokevirtual 100, 3) := by decide +kernel
theorem dX5_lasts_59 : decode cX5_lasts 59 = .ok (.istore 6, 2) := by decide +kernel
theorem dX5_lasts_61 : decode cX5_lasts 61 = .ok (.iload 6, 2) := by decide +kernel
theorem dX5_lasts_63 : decode cX5_lasts 63 = .ok (.iload_n 3, 1) := by decide +kernel
theorem dX5_lasts_64 : decode cX5_lasts 64 = .ok (.if_icmp .le 10, 3) := by decide +kernel
theorem dX5_lasts_67 : decode cX5_lasts 67 = .ok (.iload 6, 2) := by decide +kernel
theorem dX5_lasts_69 : decode cX5_lasts 69 = .ok (.istore_n 3, 1) := by decide +kernel
theorem dX5_lasts_70 : decode cX5_lasts 70 = .ok (.iload 5, 2) := by decide +kernel
theorem dX5_lasts_72 : decode cX5_lasts 72 = .ok (.istore 4, 2) := by decide +kernel
theorem dX5_lasts_74 : decode cX5_lasts 74 = .ok (.iinc 5 1, 3) := by decide +kernel
theorem dX5_lasts_77 : decode cX5_lasts 77 = .ok (.goto (-45), 3) := by decide +kernel
theorem dX5_lasts_80 : decode cX5_lasts 80 = .ok (.iload 4, 2) := by decide +kernel
theorem dX5_lasts_82 : decode cX5_lasts 82 = .ok (.ireturn, 1) := by decide +kernel
theorem dX5_from_0 : decode cX5_from 0 = .ok (.aload_n 0, 1) := by decide +kernel
theorem dX5_from_1 : decode cX5_from 1 = .ok (.iload_n 1, 1) := by decide +kernel
theorem dX5_from_2 : decode cX5_from 2 = .ok (.iload_n 2, 1) := by decide +kernel
theorem dX5_from_3 : decode cX5_from 3 = .ok (.invokevirtual 168, 3) := by decide +kernel
theorem dX5_from_6 : decode cX5_from 6 = .ok (.istore_n 3, 1) := by decide +kernel
theorem dX5_from_7 : decode cX5_from 7 = .ok (.iload_n 3, 1) := by decide +kernel
theorem dX5_from_8 : decode cX5_from 8 = .ok (.ifCond .eq 9, 3) := by decide +kernel
theorem dX5_from_11 : decode cX5_from 11 = .ok (.aload_n 0, 1) := by decide +kernel
theorem dX5_from_12 : decode cX5_from 12 = .ok (.iload_n 3, 1) := by decide +kernel
theorem dX5_from_13 : decode cX5_from 13 = .ok (.invokevirtual 48, 3) := by decide +kernel
theorem dX5_from_16 : decode cX5_from 16 = .ok (.ireturn, 1) := by decide +kernel
theorem dX5_from_17 : decode cX5_from 17 = .ok (.aload_n 0, 1) := by decide +kernel
theorem dX5_from_18 : decode cX5_from 18 = .ok (.iload_n 2, 1) := by decide +kernel
theorem dX5_from_19 : decode cX5_from 19 = .ok (.invokevirtual 175, 3) := by decide +kernel
theorem dX5_from_22 : decode cX5_from 22 = .ok (.aload_n 0, 1) := by decide +kernel
theorem dX5_from_23 : decode cX5_from 23 = .ok (.getfield 16, 3) := by decide +kernel
theorem dX5_from_26 : decode cX5_from 26 = .ok (.getfield 96, 3) := by decide +kernel
theorem dX5_from_29 : decode cX5_from 29 = .ok (.getfield 186, 3) := by decide +kernel
theorem dX5_from_32 : decode cX5_from 32 = .ok (.iload_n 1, 1) := by decide +kernel
theorem dX5_from_33 : decode cX5_from 33 = .ok (.invokestatic 83, 3) := by decide +kernel
theorem dX5_from_36 : decode cX5_from 36 = .ok (.ireturn, 1) := by decide +kernel
theorem dX5_first_0 : decode cX5_first 0 = .ok (.aload_n 0, 1) := by decide +kernel
theorem dX5_first_1 : decode cX5_first 1 = .ok (.iload_n 1, 1) := by decide +kernel
theorem dX5_first_2 : decode cX5_first 2 = .ok (.iload_n 2, 1) := by decide +kernel
theorem dX5_first_3 : decode cX5_first 3 = .ok (.invokevirtual 168, 3) := by decide +kernel
theorem dX5_first_6 : decode cX5_first 6 = .ok (.istore_n 3, 1) := by decide +kernel
theorem dX5_first_7 : decode cX5_first 7 = .ok (.iload_n 3, 1) := by decide +kernel
theorem dX5_first_8 : decode cX5_first 8 = .ok (.ifCond .eq 9, 3) := by decide +kernel
theorem dX5_first_11 : decode cX5_first 11 = .ok (.aload_n 0, 1) := by decide +kernel
theorem dX5_first_12 : decode cX5_first 12 = .ok (.iload_n 3, 1) := by decide +kernel
theorem dX5_first_13 : decode cX5_first 13 = .ok (.invokevirtual 48, 3) := by decide +kernel
theorem dX5_first_16 : decode cX5_first 16 = .ok (.ireturn, 1) := by decide +kernel
theorem dX5_first_17 : decode cX5_first 17 = .ok (.aload_n 0, 1) := by decide +kernel
theorem dX5_first_18 : decode cX5_first 18 = .ok (.iload_n 2, 1) := by decide +kernel
theorem dX5_first_19 : decode cX5_first 19 = .ok (.invokevirtual 175, 3) := by decide +kernel
theorem dX5_first_22 : decode cX5_first 22 = .ok (.aload_n 0, 1) := by decide +kernel
theorem dX5_first_23 : decode cX5_first 23 = .ok (.getfield 16, 3) := by decide +kernel
theorem dX5_first_26 : decode cX5_first 26 = .ok (.getfield 96, 3) := by decide +kernel
theorem dX5_first_29 : decode cX5_first 29 = .ok (.getfield 189, 3) := by decide +kernel
theorem dX5_first_32 : decode cX5_first 32 = .ok (.iload_n 1, 1) := by decide +kernel
theorem dX5_first_33 : decode cX5_first 33 = .ok (.invokestatic 83, 3) := by decide +kernel
theorem dX5_first_36 : decode cX5_first 36 = .ok (.ireturn, 1) := by decide +kernel
theorem dX5_rid_0 : decode cX5_rid 0 = .ok (.aload_n 0, 1) := by decide +kernel
theorem dX5_rid_1 : decode cX5_rid 1 = .ok (.getfield 10, 3) := by decide +kernel
theorem dX5_rid_4 : decode cX5_rid 4 = .ok (.getfield 96, 3) := by decide +kernel
theorem dX5_rid_7 : decode cX5_rid 7 = .ok (.iload_n 1, 1) := by decide +kernel
theorem dX5_rid_8 : decode cX5_rid 8 = .ok (.invokevirtual 105, 3) := by decide +kernel
theorem dX5_rid_11 : decode cX5_rid 11 = .ok (.ifCond .ne 9, 3) := by decide +kernel
theorem dX5_rid_14 : decode cX5_rid 14 = .ok (.aload_n 0, 1) := by decide +kernel
theorem dX5_rid_15 : decode cX5_rid 15 = .ok (.iconst (-1), 1) := by decide +kernel
theorem dX5_rid_16 : decode cX5_rid 16 = .ok (.invokevirtual 48, 3) := by decide +kernel
theorem dX5_rid_19 : decode cX5_rid 19 = .ok (.ireturn, 1) := by decide +kernel
theorem dX5_rid_20 : decode cX5_rid 20 = .ok (.iload_n 2, 1) := by decide +kernel
theorem dX5_rid_21 : decode cX5_rid 21 = .ok (.invokestatic 172, 3) := by decide +kernel
theorem dX5_rid_24 : decode cX5_rid 24 = .ok (.ifCond .eq 10, 3) := by decide +kernel
theorem dX5_rid_27 : decode cX5_rid 27 = .ok (.aload_n 0, 1) := by decide +kernel
theorem dX5_rid_28 : decode cX5_rid 28 = .ok (.bipush (-2), 2) := by decide +kernel
theorem dX5_rid_30 : decode cX5_rid 30 = .ok (.invokevirtual 48, 3) := by decide +kernel
theorem dX5_rid_33 : decode cX5_rid 33 = .ok (.ireturn, 1) := by decide +kernel
theorem dX5_rid_34 : decode cX5_rid 34 = .ok (.aload_n 0, 1) := by decide +kernel
theorem dX5_rid_35 : decode cX5_rid 35 = .ok (.getfield 10, 3) := by decide +kernel
theorem dX5_rid_38 : decode cX5_rid 38 = .ok (.getfield 96, 3) := by decide +kernel
theorem dX5_rid_41 : decode cX5_rid 41 = .ok (.iload_n 1, 1) := by decide +kernel
theorem dX5_rid_42 : decode cX5_rid 42 = .ok (.invokevirtual 159, 3) := by decide +kernel
theorem dX5_rid_45 : decode cX5_rid 45 = .ok (.ifCond .ne 10, 3) := by decide +kernel
theorem dX5_rid_48 : decode cX5_rid 48 = .ok (.aload_n 0, 1) := by decide +kernel
theorem dX5_rid_49 : decode cX5_rid 49 = .ok (.bipush (-3), 2) := by decide +kernel
theorem dX5_rid_51 : decode cX5_rid 51 = .ok (.invokevirtual 48, 3) := by decide +kernel
theorem dX5_rid_54 : decode cX5_rid 54 = .ok (.ireturn, 1) := by decide +kernel
theorem dX5_rid_55 : decode cX5_rid 55 = .ok (.bipush 61, 2) := by decide +kernel
theorem dX5_rid_57 : decode cX5_rid 57 = .ok (.istore_n 3, 1) := by decide +kernel
theorem dX5_rid_58 : decode cX5_rid 58 = .ok (.bipush (-9), 2) := by decide +kernel
theorem dX5_rid_60 : decode cX5_rid 60 = .ok (.istore 4, 2) := by decide +kernel
theorem dX5_rid_62 : decode cX5_rid 62 = .ok (.iconst 0, 1) := by decide +kernel
theorem dX5_rid_63 : decode cX5_rid 63 = .ok (.istore 5, 2) := by decide +kernel
theorem dX5_rid_65 : decode cX5_rid 65 = .ok (.iload 5, 2) := by decide +kernel
theorem dX5_rid_67 : decode cX5_rid 67 = .ok (.iconst 3, 1) := by decide +kernel
theorem dX5_rid_68 : decode cX5_rid 68 = .ok (.if_icmp .gt 53, 3) := by decide +kernel
theorem dX5_rid_71 : decode cX5_rid 71 = .ok (.aload_n 0, 1) := by decide +kernel
theorem dX5_rid_72 : decode cX5_rid 72 = .ok (.getfield 16, 3) := by decide +kernel
theorem dX5_rid_75 : decode cX5_rid 75 = .ok (.aload_n 0, 1) := by decide +kernel
theorem dX5_rid_76 : decode cX5_rid 76 = .ok (.getfield 10, 3) := by decide +kernel
theorem dX5_rid_79 : decode cX5_rid 79 = .ok (.invokevirtual 181, 3) := by decide +kernel
theorem dX5_rid_82 : decode cX5_rid 82 = .ok (.aload_n 0, 1) := by decide +kernel
theorem dX5_rid_83 : decode cX5_rid 83 = .ok (.getfield 16, 3) := by decide +kernel
theorem dX5_rid_86 : decode cX5_rid 86 = .ok (.getfield 96, 3) := by decide +kernel
theorem dX5_rid_89 : decode cX5_rid 89 = .ok (.iload_n 1, 1) := by decide +kernel
theorem dX5_rid_90 : decode cX5_rid 90 = .ok (.iload 5, 2) := by decide +kernel
theorem dX5_rid_92 : decode cX5_rid 92 = .ok (.invokevirtual 162, 3) := by decide +kernel
theorem dX5_rid_95 : decode cX5_rid 95 = .ok (.aload_n 0, 1) := by decide +kernel
theorem dX5_rid_96 : decode cX5_rid 96 = .ok (.iload_n 1, 1) := by decide +kernel
theorem dX5_rid_97 : decode cX5_rid 97 = .ok (.invokevirtual 192, 3) := by decide +kernel
theorem dX5_rid_100 : decode cX5_rid 100 = .ok (.istore 6, 2) := by decide +kernel
theorem dX5_rid_102 : decode cX5_rid 102 = .ok (.iload 6, 2) := by decide +kernel
theorem dX5_rid_104 : decode cX5_rid 104 = .ok (.iload_n 3, 1) := by decide +kernel
theorem dX5_rid_105 : decode cX5_rid 105 = .ok (.if_icmp .ge 10, 3) := by decide +kernel
theorem dX5_rid_108 : decode cX5_rid 108 = .ok (.iload 6, 2) := by decide +kernel
theorem dX5_rid_110 : decode cX5_rid 110 = .ok (.istore_n 3, 1) := by decide +kernel
theorem dX5_rid_111 : decode cX5_rid 111 = .ok (.iload 5, 2) := by decide +kernel
theorem dX5_rid_113 : decode cX5_rid 113 = .ok (.istore 4, 2) := by decide +kernel
theorem dX5_rid_115 : decode cX5_rid 115 = .ok (.iinc 5 1, 3) := by decide +kernel
theorem dX5_rid_118 : decode cX5_rid 118 = .ok (.goto (-53), 3) := by decide +kernel
theorem dX5_rid_121 : decode cX5_rid 121 = .ok (.iload_n 2, 1) := by decide +kernel
theorem dX5_rid_122 : decode cX5_rid 122 = .ok (.ifCond .eq 10, 3) := by decide +kernel
theorem dX5_rid_125 : decode cX5_rid 125 = .ok (.iload 4, 2) := by decide +kernel
theorem dX5_rid_127 : decode cX5_rid 127 = .ok (.bipush (-9), 2) := by decide +kernel
theorem dX5_rid_129 : decode cX5_rid 129 = .ok (.if_icmp .ne 8, 3) := by decide +kernel
theorem dX5_rid_132 : decode cX5_rid 132 = .ok (.iload 4, 2) := by decide +kernel
theorem dX5_rid_134 : decode cX5_rid 134 = .ok (.goto 4, 3) := by decide +kernel
theorem dX5_rid_137 : decode cX5_rid 137 = .ok (.iload_n 3, 1) := by decide +kernel
theorem dX5_rid_138 : decode cX5_rid 138 = .ok (.ireturn, 1) := by decide +kernel
theorem dX5_instead_0 : decode cX5_instead 0 = .ok (.aload_n 0, 1) := by decide +kernel
theorem dX5_instead_1 : decode cX5_instead 1 = .ok (.getfield 10, 3) := by decide +kernel
theorem dX5_instead_4 : decode cX5_instead 4 = .ok (.getfield 96, 3) := by decide +kernel
theorem dX5_instead_7 : decode cX5_instead 7 = .ok (.iload_n 1, 1) := by decide +kernel
theorem dX5_instead_8 : decode cX5_instead 8 = .ok (.invokevirtual 105, 3) := by decide +kernel
theorem dX5_instead_11 : decode cX5_instead 11 = .ok (.ifCond .ne 9, 3) := by decide +kernel
theorem dX5_instead_14 : decode cX5_instead 14 = .ok (.aload_n 0, 1) := by decide +kernel
theorem dX5_instead_15 : decode cX5_instead 15 = .ok (.iconst (-1), 1) := by decide +kernel
theorem dX5_instead_16 : decode cX5_instead 16 = .ok (.invokevirtual 48, 3) := by decide +kernel
theorem dX5_instead_19 : decode cX5_instead 19 = .ok (.ireturn, 1) := by decide +kernel
theorem dX5_instead_20 : decode cX5_instead 20 = .ok (.aload_n 0, 1) := by decide +kernel
theorem dX5_instead_21 : decode cX5_instead 21 = .ok (.getfield 10, 3) := by decide +kernel
theorem dX5_instead_24 : decode cX5_instead 24 = .ok (.getfield 96, 3) := by decide +kernel
theorem dX5_instead_27 : decode cX5_instead 27 = .ok (.iload_n 1, 1) := by decide +kernel
theorem dX5_instead_28 : decode cX5_instead 28 = .ok (.invokevirtual 159, 3) := by decide +kernel
theorem dX5_instead_31 : decode cX5_instead 31 = .ok (.ifCond .ne 10, 3) := by decide +kernel
theorem dX5_instead_34 : decode cX5_instead 34 = .ok (.aload_n 0, 1) := by decide +kernel
theorem dX5_instead_35 : decode cX5_instead 35 = .ok (.bipush (-3), 2) := by decide +kernel
theorem dX5_instead_37 : decode cX5_instead 37 = .ok (.invokevirtual 48, 3) := by decide +kernel
theorem dX5_instead_40 : decode cX5_instead 40 = .ok (.ireturn, 1) := by decide +kernel
theorem dX5_instead_41 : decode cX5_instead 41 = .ok (.aload_n 0, 1) := by decide +kernel
theorem dX5_instead_42 : decode cX5_instead 42 = .ok (.getfield 10, 3) := by decide +kernel
theorem dX5_instead_45 : decode cX5_instead 45 = .ok (.getfield 96, 3) := by decide +kernel
theorem dX5_instead_48 : decode cX5_instead 48 = .ok (.getfield 113, 3) := by decide +kernel
theorem dX5_instead_51 : decode cX5_instead 51 = .ok (.iload_n 1, 1) := by decide +kernel
theorem dX5_instead_52 : decode cX5_instead 52 = .ok (.invokestatic 83, 3) := by decide +kernel
theorem dX5_instead_55 : decode cX5_instead 55 = .ok (.istore_n 2, 1) := by decide +kernel
theorem dX5_instead_56 : decode cX5_instead 56 = .ok (.aload_n 0, 1) := by decide +kernel
theorem dX5_instead_57 : decode cX5_instead 57 = .ok (.getfield 16, 3) := by decide +kernel
theorem dX5_instead_60 : decode cX5_instead 60 = .ok (.aload_n 0, 1) := by decide +kernel
theorem dX5_instead_61 : decode cX5_instead 61 = .ok (.getfield 10, 3) := by decide +kernel
theorem dX5_instead_64 : decode cX5_instead 64 = .ok (.invokevirtual 181, 3) := by decide +kernel
theorem dX5_instead_67 : decode cX5_instead 67 = .ok (.aload_n 0, 1) := by decide +kernel
theorem dX5_instead_68 : decode cX5_instead 68 = .ok (.iload_n 1, 1) := by decide +kernel
theorem dX5_instead_69 : decode cX5_instead 69 = .ok (.invokevirtual 192, 3) := by decide +kernel
theorem dX5_instead_72 : decode cX5_instead 72 = .ok (.istore_n 3, 1) := by decide +kernel
theorem dX5_instead_73 : decode cX5_instead 73 = .ok (.bipush (-9), 2) := by decide +kernel
theorem dX5_instead_75 : decode cX5_instead 75 = .ok (.istore 4, 2) := by decide +kernel
theorem dX5_instead_77 : decode cX5_instead 77 = .ok (.iconst 0, 1) := by decide +kernel
theorem dX5_instead_78 : decode cX5_instead 78 = .ok (.istore 5, 2) := by decide +kernel
theorem dX5_instead_80 : decode cX5_instead 80 = .ok (.iload 5, 2) := by decide +kernel
theorem dX5_instead_82 : decode cX5_instead 82 = .ok (.aload_n 0, 1) := by decide +kernel
theorem dX5_instead_83 : decode cX5_instead 83 = .ok (.getfield 10, 3) := by decide +kernel
theorem dX5_instead_86 : decode cX5_instead 86 = .ok (.getfield 70, 3) := by decide +kernel
theorem dX5_instead_89 : decode cX5_instead 89 = .ok (.getfield 185, 3) := by decide +kernel
theorem dX5_instead_92 : decode cX5_instead 92 = .ok (.if_icmp .ge 56, 3) := by decide +kernel
theorem dX5_instead_95 : decode cX5_instead 95 = .ok (.iload 5, 2) := by decide +kernel
theorem dX5_instead_97 : decode cX5_instead 97 = .ok (.iload_n 2, 1) := by decide +kernel
theorem dX5_instead_98 : decode cX5_instead 98 = .ok (.if_icmp .eq 44, 3) := by decide +kernel
theorem dX5_instead_101 : decode cX5_instead 101 = .ok (.aload_n 0, 1) := by decide +kernel
theorem dX5_instead_102 : decode cX5_instead 102 = .ok (.getfield 16, 3) := by decide +kernel
theorem dX5_instead_105 : decode cX5_instead 105 = .ok (.aload_n 0, 1) := by decide +kernel
theorem dX5_instead_106 : decode cX5_instead 106 = .ok (.getfield 10, 3) := by decide +kernel
theorem dX5_instead_109 : decode cX5_instead 109 = .ok (.invokevirtual 181, 3) := by decide +kernel
theorem dX5_instead_112 : decode cX5_instead 112 = .ok (.aload_n 0, 1) := by decide +kernel
theorem dX5_instead_113 : decode cX5_instead 113 = .ok (.getfield 16, 3) := by decide +kernel
theorem dX5_instead_116 : decode cX5_instead 116 = .ok (.iload_n 1, 1) := by decide +kernel
theorem dX5_instead_117 : decode cX5_instead 117 = .ok (.iload 5, 2) := by decide +kernel
theorem dX5_instead_119 : decode cX5_instead 119 = .ok (.invokevirtual 155, 3) := by decide +kernel
theorem dX5_instead_122 : decode cX5_instead 122 = .ok (.aload_n 0, 1) := by decide +kernel
theorem dX5_instead_123 : decode cX5_instead 123 = .ok (.iload_n 1, 1) := by decide +kernel
theorem dX5_instead_124 : decode cX5_instead 124 = .ok (.invokevirtual 192, 3) := by decide +kernel
theorem dX5_instead_127 : decode cX5_instead 127 = .ok (.istore 6, 2) := by decide +kernel
theorem dX5_instead_129 : decode cX5_instead 129 = .ok (.iload 6, 2) := by decide +kernel
theorem dX5_instead_131 : decode cX5_instead 131 = .ok (.iload_n 3, 1) := by decide +kernel
theorem dX5_instead_132 : decode cX5_instead 132 = .ok (.if_icmp .ge 10, 3) := by decide +kernel
theorem dX5_instead_135 : decode cX5_instead 135 = .ok (.iload 6, 2) := by decide +kernel
theorem dX5_instead_137 : decode cX5_instead 137 = .ok (.istore_n 3, 1) := by decide +kernel
theorem dX5_instead_138 : decode cX5_instead 138 = .ok (.iload 5, 2) := by decide +kernel
theorem dX5_instead_140 : decode cX5_instead 140 = .ok (.istore 4, 2) := by decide +kernel
theorem dX5_instead_142 : decode cX5_instead 142 = .ok (.iinc 5 1, 3) := by decide +kernel
theorem dX5_instead_145 : decode cX5_instead 145 = .ok (.goto (-65), 3) := by decide +kernel
theorem dX5_instead_148 : decode cX5_instead 148 = .ok (.iload 4, 2) := by decide +kernel
theorem dX5_instead_150 : decode cX5_instead 150 = .ok (.ireturn, 1) := by decide +kernel
theorem dX5_shut_0 : decode cX5_shut 0 = .ok (.iload_n 1, 1) := by decide +kernel
theorem dX5_shut_1 : decode cX5_shut 1 = .ok (.iconst 0, 1) := by decide +kernel
theorem dX5_shut_2 : decode cX5_shut 2 = .ok (.bipush 60, 2) := by decide +kernel
theorem dX5_shut_4 : decode cX5_shut 4 = .ok (.invokestatic 44, 3) := by decide +kernel
theorem dX5_shut_7 : decode cX5_shut 7 = .ok (.istore_n 2, 1) := by decide +kernel
theorem dX5_shut_8 : decode cX5_shut 8 = .ok (.iload_n 2, 1) := by decide +kernel
theorem dX5_shut_9 : decode cX5_shut 9 = .ok (.ifCond .eq 9, 3) := by decide +kernel
theorem dX5_shut_12 : decode cX5_shut 12 = .ok (.aload_n 0, 1) := by decide +kernel
theorem dX5_shut_13 : decode cX5_shut 13 = .ok (.iload_n 2, 1) := by decide +kernel
theorem dX5_shut_14 : decode cX5_shut 14 = .ok (.invokevirtual 48, 3) := by decide +kernel
theorem dX5_shut_17 : decode cX5_shut 17 = .ok (.ireturn, 1) := by decide +kernel
theorem dX5_shut_18 : decode cX5_shut 18 = .ok (.aload_n 0, 1) := by decide +kernel
theorem dX5_shut_19 : decode cX5_shut 19 = .ok (.iload_n 1, 1) := by decide +kernel
theorem dX5_shut_20 : decode cX5_shut 20 = .ok (.invokevirtual 175, 3) := by decide +kernel
theorem dX5_shut_23 : decode cX5_shut 23 = .ok (.aload_n 0, 1) := by decide +kernel
theorem dX5_shut_24 : decode cX5_shut 24 = .ok (.getfield 16, 3) := by decide +kernel
theorem dX5_shut_27 : decode cX5_shut 27 = .ok (.getfield 96, 3) := by decide +kernel
theorem dX5_shut_30 : decode cX5_shut 30 = .ok (.iconst (-1), 1) := by decide +kernel
theorem dX5_shut_31 : decode cX5_shut 31 = .ok (.invokevirtual 100, 3) := by decide +kernel
theorem dX5_shut_34 : decode cX5_shut 34 = .ok (.istore_n 3, 1) := by decide +kernel
theorem dX5_shut_35 : decode cX5_shut 35 = .ok (.bipush (-9), 2) := by decide +kernel
theorem dX5_shut_37 : decode cX5_shut 37 = .ok (.istore 4, 2) := by decide +kernel
theorem dX5_shut_39 : decode cX5_shut 39 = .ok (.iconst 0, 1) := by decide +kernel
theorem dX5_shut_40 : decode cX5_shut 40 = .ok (.istore 5, 2) := by decide +kernel
theorem dX5_shut_42 : decode cX5_shut 42 = .ok (.iload 5, 2) := by decide +kernel
theorem dX5_shut_44 : decode cX5_shut 44 = .ok (.aload_n 0, 1) := by decide +kernel
theorem dX5_shut_45 : decode cX5_shut 45 = .ok (.getfield 10, 3) := by decide +kernel
theorem dX5_shut_48 : decode cX5_shut 48 = .ok (.getfield 138, 3) := by decide +kernel
theorem dX5_shut_51 : decode cX5_shut 51 = .ok (.getfield 195, 3) := by decide +kernel
theorem dX5_shut_54 : decode cX5_shut 54 = .ok (.if_icmp .ge 82, 3) := by decide +kernel
theorem dX5_shut_57 : decode cX5_shut 57 = .ok (.aload_n 0, 1) := by decide +kernel
theorem dX5_shut_58 : decode cX5_shut 58 = .ok (.getfield 10, 3) := by decide +kernel
theorem dX5_shut_61 : decode cX5_shut 61 = .ok (.getfield 138, 3) := by decide +kernel
theorem dX5_shut_64 : decode cX5_shut 64 = .ok (.iload 5, 2) := by decide +kernel
theorem dX5_shut_66 : decode cX5_shut 66 = .ok (.invokevirtual 196, 3) := by decide +kernel
theorem dX5_shut_69 : decode cX5_shut 69 = .ok (.ifCond .eq 61, 3) := by decide +kernel
theorem dX5_shut_72 : decode cX5_shut 72 = .ok (.aload_n 0, 1) := by decide +kernel
theorem dX5_shut_73 : decode cX5_shut 73 = .ok (.getfield 16, 3) := by decide +kernel
theorem dX5_shut_76 : decode cX5_shut 76 = .ok (.aload_n 0, 1) := by decide +kernel
theorem dX5_shut_77 : decode cX5_shut 77 = .ok (.getfield 10, 3) := by decide +kernel
theorem dX5_shut_80 : decode cX5_shut 80 = .ok (.invokevirtual 181, 3) := by decide +kernel
theorem dX5_shut_83 : decode cX5_shut 83 = .ok (.aload_n 0, 1) := by decide +kernel
theorem dX5_shut_84 : decode cX5_shut 84 = .ok (.getfield 16, 3) := by decide +kernel
theorem dX5_shut_87 : decode cX5_shut 87 = .ok (.getfield 138, 3) := by decide +kernel
theorem dX5_shut_90 : decode cX5_shut 90 = .ok (.iload 5, 2) := by decide +kernel
theorem dX5_shut_92 : decode cX5_shut 92 = .ok (.invokevirtual 145, 3) := by decide +kernel
theorem dX5_shut_95 : decode cX5_shut 95 = .ok (.pop, 1) := by decide +kernel
theorem dX5_shut_96 : decode cX5_shut 96 = .ok (.aload_n 0, 1) := by decide +kernel
theorem dX5_shut_97 : decode cX5_shut 97 = .ok (.getfield 16, 3) := by decide +kernel
theorem dX5_shut_100 : decode cX5_shut 100 = .ok (.iload_n 1, 1) := by decide +kernel
theorem dX5_shut_101 : decode cX5_shut 101 = .ok (.invokevirtual 199, 3) := by decide +kernel
theorem dX5_shut_104 : decode cX5_shut 104 = .ok (.aload_n 0, 1) := by decide +kernel
theorem dX5_shut_105 : decode cX5_shut 105 = .ok (.getfield 16, 3) := by decide +kernel
theorem dX5_shut_108 : decode cX5_shut 108 = .ok (.getfield 96, 3) := by decide +kernel
theorem dX5_shut_111 : decode cX5_shut 111 = .ok (.iconst (-1), 1) := by decide +kernel
theorem dX5_shut_112 : decode cX5_shut 112 = .ok (.invokevirtual 100, 3) := by decide +kernel
theorem dX5_shut_115 : decode cX5_shut 115 = .ok (.istore 6, 2) := by decide +kernel
theorem dX5_shut_117 : decode cX5_shut 117 = .ok (.iload 6, 2) := by decide +kernel
theorem dX5_shut_119 : decode cX5_shut 119 = .ok (.iload_n 3, 1) := by decide +kernel
theorem dX5_shut_120 : decode cX5_shut 120 = .ok (.if_icmp .ge 10, 3) := by decide +kernel
theorem dX5_shut_123 : decode cX5_shut 123 = .ok (.iload 6, 2) := by decide +kernel
theorem dX5_shut_125 : decode cX5_shut 125 = .ok (.istore_n 3, 1) := by decide +kernel
theorem dX5_shut_126 : decode cX5_shut 126 = .ok (.iload 5, 2) := by decide +kernel
theorem dX5_shut_128 : decode cX5_shut 128 = .ok (.istore 4, 2) := by decide +kernel
theorem dX5_shut_130 : decode cX5_shut 130 = .ok (.iinc 5 1, 3) := by decide +kernel
theorem dX5_shut_133 : decode cX5_shut 133 = .ok (.goto (-91), 3) := by decide +kernel
theorem dX5_shut_136 : decode cX5_shut 136 = .ok (.iload 4, 2) := by decide +kernel
theorem dX5_shut_138 : decode cX5_shut 138 = .ok (.ireturn, 1) := by decide +kernel
theorem dX5_seats_0 : decode cX5_seats 0 = .ok (.iload_n 1, 1) := by decide +kernel
theorem dX5_seats_1 : decode cX5_seats 1 = .ok (.iconst 0, 1) := by decide +kernel
theorem dX5_seats_2 : decode cX5_seats 2 = .ok (.bipush 60, 2) := by decide +kernel
theorem dX5_seats_4 : decode cX5_seats 4 = .ok (.invokestatic 44, 3) := by decide +kernel
theorem dX5_seats_7 : decode cX5_seats 7 = .ok (.istore_n 2, 1) := by decide +kernel
theorem dX5_seats_8 : decode cX5_seats 8 = .ok (.iload_n 2, 1) := by decide +kernel
theorem dX5_seats_9 : decode cX5_seats 9 = .ok (.ifCond .eq 9, 3) := by decide +kernel
theorem dX5_seats_12 : decode cX5_seats 12 = .ok (.aload_n 0, 1) := by decide +kernel
theorem dX5_seats_13 : decode cX5_seats 13 = .ok (.iload_n 2, 1) := by decide +kernel
theorem dX5_seats_14 : decode cX5_seats 14 = .ok (.invokevirtual 48, 3) := by decide +kernel
theorem dX5_seats_17 : decode cX5_seats 17 = .ok (.ireturn, 1) := by decide +kernel
theorem dX5_seats_18 : decode cX5_seats 18 = .ok (.aload_n 0, 1) := by decide +kernel
theorem dX5_seats_19 : decode cX5_seats 19 = .ok (.iload_n 1, 1) := by decide +kernel
theorem dX5_seats_20 : decode cX5_seats 20 = .ok (.invokevirtual 175, 3) := by decide +kernel
theorem dX5_seats_23 : decode cX5_seats 23 = .ok (.aload_n 0, 1) := by decide +kernel
theorem dX5_seats_24 : decode cX5_seats 24 = .ok (.getfield 16, 3) := by decide +kernel
theorem dX5_seats_27 : decode cX5_seats 27 = .ok (.getfield 96, 3) := by decide +kernel
theorem dX5_seats_30 : decode cX5_seats 30 = .ok (.iconst (-1), 1) := by decide +kernel
theorem dX5_seats_31 : decode cX5_seats 31 = .ok (.invokevirtual 100, 3) := by decide +kernel
theorem dX5_seats_34 : decode cX5_seats 34 = .ok (.istore_n 3, 1) := by decide +kernel
theorem dX5_seats_35 : decode cX5_seats 35 = .ok (.bipush (-9), 2) := by decide +kernel
theorem dX5_seats_37 : decode cX5_seats 37 = .ok (.istore 4, 2) := by decide +kernel
theorem dX5_seats_39 : decode cX5_seats 39 = .ok (.iconst 0, 1) := by decide +kernel
theorem dX5_seats_40 : decode cX5_seats 40 = .ok (.istore 5, 2) := by decide +kernel
theorem dX5_seats_42 : decode cX5_seats 42 = .ok (.iload 5, 2) := by decide +kernel
theorem dX5_seats_44 : decode cX5_seats 44 = .ok (.aload_n 0, 1) := by decide +kernel
theorem dX5_seats_45 : decode cX5_seats 45 = .ok (.getfield 10, 3) := by decide +kernel
theorem dX5_seats_48 : decode cX5_seats 48 = .ok (.getfield 96, 3) := by decide +kernel
theorem dX5_seats_51 : decode cX5_seats 51 = .ok (.getfield 202, 3) := by decide +kernel
theorem dX5_seats_54 : decode cX5_seats 54 = .ok (.if_icmp .ge 101, 3) := by decide +kernel
theorem dX5_seats_57 : decode cX5_seats 57 = .ok (.iload 5, 2) := by decide +kernel
theorem dX5_seats_59 : decode cX5_seats 59 = .ok (.iconst 1, 1) := by decide +kernel
theorem dX5_seats_60 : decode cX5_seats 60 = .ok (.iadd, 1) := by decide +kernel
theorem dX5_seats_61 : decode cX5_seats 61 = .ok (.istore 6, 2) := by decide +kernel
theorem dX5_seats_63 : decode cX5_seats 63 = .ok (.iload 6, 2) := by decide +kernel
theorem dX5_seats_65 : decode cX5_seats 65 = .ok (.aload_n 0, 1) := by decide +kernel
theorem dX5_seats_66 : decode cX5_seats 66 = .ok (.getfield 10, 3) := by decide +kernel
theorem dX5_seats_69 : decode cX5_seats 69 = .ok (.getfield 96, 3) := by decide +kernel
theorem dX5_seats_72 : decode cX5_seats 72 = .ok (.getfield 202, 3) := by decide +kernel
theorem dX5_seats_75 : decode cX5_seats 75 = .ok (.if_icmp .ge 74, 3) := by decide +kernel
theorem dX5_seats_78 : decode cX5_seats 78 = .ok (.aload_n 0, 1) := by decide +kernel
theorem dX5_seats_79 : decode cX5_seats 79 = .ok (.getfield 16, 3) := by decide +kernel
theorem dX5_seats_82 : decode cX5_seats 82 = .ok (.aload_n 0, 1) := by decide +kernel
theorem dX5_seats_83 : decode cX5_seats 83 = .ok (.getfield 10, 3) := by decide +kernel
theorem dX5_seats_86 : decode cX5_seats 86 = .ok (.invokevirtual 181, 3) := by decide +kernel
theorem dX5_seats_89 : decode cX5_seats 89 = .ok (.aload_n 0, 1) := by decide +kernel
theorem dX5_seats_90 : decode cX5_seats 90 = .ok (.getfield 16, 3) := by decide +kernel
theorem dX5_seats_93 : decode cX5_seats 93 = .ok (.getfield 96, 3) := by decide +kernel
theorem dX5_seats_96 : decode cX5_seats 96 = .ok (.iload 5, 2) := by decide +kernel
theorem dX5_seats_98 : decode cX5_seats 98 = .ok (.iload 6, 2) := by decide +kernel
theorem dX5_seats_100 : decode cX5_seats 100 = .ok (.invokevirtual 203, 3) := by decide +kernel
theorem dX5_seats_103 : decode cX5_seats 103 = .ok (.aload_n 0, 1) := by decide +kernel
theorem dX5_seats_104 : decode cX5_seats 104 = .ok (.getfield 16, 3) := by decide +kernel
theorem dX5_seats_107 : decode cX5_seats 107 = .ok (.iload_n 1, 1) := by decide +kernel
theorem dX5_seats_108 : decode cX5_seats 108 = .ok (.invokevirtual 199, 3) := by decide +kernel
theorem dX5_seats_111 : decode cX5_seats 111 = .ok (.aload_n 0, 1) := by decide +kernel
theorem dX5_seats_112 : decode cX5_seats 112 = .ok (.getfield 16, 3) := by decide +kernel
theorem dX5_seats_115 : decode cX5_seats 115 = .ok (.getfield 96, 3) := by decide +kernel
theorem dX5_seats_118 : decode cX5_seats 118 = .ok (.iconst (-1), 1) := by decide +kernel
theorem dX5_seats_119 : decode cX5_seats 119 = .ok (.invokevirtual 100, 3) := by decide +kernel
theorem dX5_seats_122 : decode cX5_seats 122 = .ok (.istore 7, 2) := by decide +kernel
theorem dX5_seats_124 : decode cX5_seats 124 = .ok (.iload 7, 2) := by decide +kernel
theorem dX5_seats_126 : decode cX5_seats 126 = .ok (.iload_n 3, 1) := by decide +kernel
theorem dX5_seats_127 : decode cX5_seats 127 = .ok (.if_icmp .ge 16, 3) := by decide +kernel
theorem dX5_seats_130 : decode cX5_seats 130 = .ok (.iload 7, 2) := by decide +kernel
theorem dX5_seats_132 : decode cX5_seats 132 = .ok (.istore_n 3, 1) := by decide +kernel
theorem dX5_seats_133 : decode cX5_seats 133 = .ok (.bipush 10, 2) := by decide +kernel
theorem dX5_seats_135 : decode cX5_seats 135 = .ok (.iload 5, 2) := by decide +kernel
theorem dX5_seats_137 : decode cX5_seats 137 = .ok (.imul, 1) := by decide +kernel
theorem dX5_seats_138 : decode cX5_seats 138 = .ok (.iload 6, 2) := by decide +kernel
theorem dX5_seats_140 : decode cX5_seats 140 = .ok (.iadd, 1) := by decide +kernel
theorem dX5_seats_141 : decode cX5_seats 141 = .ok (.istore 4, 2) := by decide +kernel
theorem dX5_seats_143 : decode cX5_seats 143 = .ok (.iinc 6 1, 3) := by decide +kernel
theorem dX5_seats_146 : decode cX5_seats 146 = .ok (.goto (-83), 3) := by decide +kernel
theorem dX5_seats_149 : decode cX5_seats 149 = .ok (.iinc 5 1, 3) := by decide +kernel
theorem dX5_seats_152 : decode cX5_seats 152 = .ok (.goto (-110), 3) := by decide +kernel
theorem dX5_seats_155 : decode cX5_seats 155 = .ok (.iload 4, 2) := by decide +kernel
theorem dX5_seats_157 : decode cX5_seats 157 = .ok (.ireturn, 1) := by decide +kernel
theorem dX5_write_0 : decode cX5_write 0 = .ok (.iload_n 1, 1) := by decide +kernel
theorem dX5_write_1 : decode cX5_write 1 = .ok (.iload_n 2, 1) := by decide +kernel
theorem dX5_write_2 : decode cX5_write 2 = .ok (.invokestatic 206, 3) := by decide +kernel
theorem dX5_write_5 : decode cX5_write 5 = .ok (.istore 4, 2) := by decide +kernel
theorem dX5_write_7 : decode cX5_write 7 = .ok (.iload 4, 2) := by decide +kernel
theorem dX5_write_9 : decode cX5_write 9 = .ok (.ifCond .ne 20, 3) := by decide +kernel
theorem dX5_write_12 : decode cX5_write 12 = .ok (.aload_n 0, 1) := by decide +kernel
theorem dX5_write_13 : decode cX5_write 13 = .ok (.getfield 10, 3) := by decide +kernel
theorem dX5_write_16 : decode cX5_write 16 = .ok (.getfield 70, 3) := by decide +kernel
theorem dX5_write_19 : decode cX5_write 19 = .ok (.invokevirtual 209, 3) := by decide +kernel
theorem dX5_write_22 : decode cX5_write 22 = .ok (.ifCond .eq 7, 3) := by decide +kernel
theorem dX5_write_25 : decode cX5_write 25 = .ok (.bipush (-6), 2) := by decide +kernel
theorem dX5_write_27 : decode cX5_write 27 = .ok (.istore 4, 2) := by decide +kernel
theorem dX5_write_29 : decode cX5_write 29 = .ok (.iload 4, 2) := by decide +kernel
theorem dX5_write_31 : decode cX5_write 31 = .ok (.ifCond .ne 14, 3) := by decide +kernel
theorem dX5_write_34 : decode cX5_write 34 = .ok (.iload_n 3, 1) := by decide +kernel
theorem dX5_write_35 : decode cX5_write 35 = .ok (.invokestatic 172, 3) := by decide +kernel
theorem dX5_write_38 : decode cX5_write 38 = .ok (.ifCond .eq 7, 3) := by decide +kernel
theorem dX5_write_41 : decode cX5_write 41 = .ok (.bipush (-2), 2) := by decide +kernel
theorem dX5_write_43 : decode cX5_write 43 = .ok (.istore 4, 2) := by decide +kernel
theorem dX5_write_45 : decode cX5_write 45 = .ok (.iload 4, 2) := by decide +kernel
theorem dX5_write_47 : decode cX5_write 47 = .ok (.ifCond .ne 20, 3) := by decide +kernel
theorem dX5_write_50 : decode cX5_write 50 = .ok (.aload_n 0, 1) := by decide +kernel
theorem dX5_write_51 : decode cX5_write 51 = .ok (.getfield 10, 3) := by decide +kernel
theorem dX5_write_54 : decode cX5_write 54 = .ok (.getfield 96, 3) := by decide +kernel
theorem dX5_write_57 : decode cX5_write 57 = .ok (.getfield 202, 3) := by decide +kernel
theorem dX5_write_60 : decode cX5_write 60 = .ok (.ifCond .ne 7, 3) := by decide +kernel
theorem dX5_write_63 : decode cX5_write 63 = .ok (.bipush (-3), 2) := by decide +kernel
theorem dX5_write_65 : decode cX5_write 65 = .ok (.istore 4, 2) := by decide +kernel
theorem dX5_write_67 : decode cX5_write 67 = .ok (.iload 4, 2) := by decide +kernel
theorem dX5_write_69 : decode cX5_write 69 = .ok (.ifCond .eq 10, 3) := by decide +kernel
theorem dX5_write_72 : decode cX5_write 72 = .ok (.aload_n 0, 1) := by decide +kernel
theorem dX5_write_73 : decode cX5_write 73 = .ok (.iload 4, 2) := by decide +kernel
theorem dX5_write_75 : decode cX5_write 75 = .ok (.invokevirtual 48, 3) := by decide +kernel
theorem dX5_write_78 : decode cX5_write 78 = .ok (.ireturn, 1) := by decide +kernel
theorem dX5_write_79 : decode cX5_write 79 = .ok (.iconst (-1), 1) := by decide +kernel
theorem dX5_write_80 : decode cX5_write 80 = .ok (.istore 5, 2) := by decide +kernel
theorem dX5_write_82 : decode cX5_write 82 = .ok (.bipush (-9), 2) := by decide +kernel
theorem dX5_write_84 : decode cX5_write 84 = .ok (.istore 6, 2) := by decide +kernel
theorem dX5_write_86 : decode cX5_write 86 = .ok (.iconst 0, 1) := by decide +kernel
theorem dX5_write_87 : decode cX5_write 87 = .ok (.istore 7, 2) := by decide +kernel
theorem dX5_write_89 : decode cX5_write 89 = .ok (.iload 7, 2) := by decide +kernel
theorem dX5_write_91 : decode cX5_write 91 = .ok (.bipush 6, 2) := by decide +kernel
theorem dX5_write_93 : decode cX5_write 93 = .ok (.if_icmp .ge 58, 3) := by decide +kernel
theorem dX5_write_96 : decode cX5_write 96 = .ok (.iconst 0, 1) := by decide +kernel
theorem dX5_write_97 : decode cX5_write 97 = .ok (.istore 8, 2) := by decide +kernel
theorem dX5_write_99 : decode cX5_write 99 = .ok (.iload 8, 2) := by decide +kernel
theorem dX5_write_101 : decode cX5_write 101 = .ok (.bipush 9, 2) := by decide +kernel
theorem dX5_write_103 : decode cX5_write 103 = .ok (.if_icmp .gt 42, 3) := by decide +kernel
theorem dX5_write_106 : decode cX5_write 106 = .ok (.aload_n 0, 1) := by decide +kernel
theorem dX5_write_107 : decode cX5_write 107 = .ok (.iload 7, 2) := by decide +kernel
theorem dX5_write_109 : decode cX5_write 109 = .ok (.iload 8, 2) := by decide +kernel
theorem dX5_write_111 : decode cX5_write 111 = .ok (.iload_n 1, 1) := by decide +kernel
theorem dX5_write_112 : decode cX5_write 112 = .ok (.iload_n 2, 1) := by decide +kernel
theorem dX5_write_113 : decode cX5_write 113 = .ok (.invokevirtual 210, 3) := by decide +kernel
theorem dX5_write_116 : decode cX5_write 116 = .ok (.istore 9, 2) := by decide +kernel
theorem dX5_write_118 : decode cX5_write 118 = .ok (.iload 9, 2) := by decide +kernel
theorem dX5_write_120 : decode cX5_write 120 = .ok (.iload 5, 2) := by decide +kernel
theorem dX5_write_122 : decode cX5_write 122 = .ok (.if_icmp .le 17, 3) := by decide +kernel
theorem dX5_write_125 : decode cX5_write 125 = .ok (.iload 9, 2) := by decide +kernel
theorem dX5_write_127 : decode cX5_write 127 = .ok (.istore 5, 2) := by decide +kernel
theorem dX5_write_129 : decode cX5_write 129 = .ok (.bipush 10, 2) := by decide +kernel
theorem dX5_write_131 : decode cX5_write 131 = .ok (.iload 7, 2) := by decide +kernel
theorem dX5_write_133 : decode cX5_write 133 = .ok (.imul, 1) := by decide +kernel
theorem dX5_write_134 : decode cX5_write 134 = .ok (.iload 8, 2) := by decide +kernel
theorem dX5_write_136 : decode cX5_write 136 = .ok (.iadd, 1) := by decide +kernel
theorem dX5_write_137 : decode cX5_write 137 = .ok (.istore 6, 2) := by decide +kernel
theorem dX5_write_139 : decode cX5_write 139 = .ok (.iinc 8 1, 3) := by decide +kernel
theorem dX5_write_142 : decode cX5_write 142 = .ok (.goto (-43), 3) := by decide +kernel
theorem dX5_write_145 : decode cX5_write 145 = .ok (.iinc 7 1, 3) := by decide +kernel
theorem dX5_write_148 : decode cX5_write 148 = .ok (.goto (-59), 3) := by decide +kernel
theorem dX5_write_151 : decode cX5_write 151 = .ok (.iload_n 3, 1) := by decide +kernel
theorem dX5_write_152 : decode cX5_write 152 = .ok (.ifCond .ne 8, 3) := by decide +kernel
theorem dX5_write_155 : decode cX5_write 155 = .ok (.iload 6, 2) := by decide +kernel
theorem dX5_write_157 : decode cX5_write 157 = .ok (.goto 5, 3) := by decide +kernel
theorem dX5_write_160 : decode cX5_write 160 = .ok (.iload 5, 2) := by decide +kernel
theorem dX5_write_162 : decode cX5_write 162 = .ok (.ireturn, 1) := by decide +kernel
theorem dX5_row_0 : decode cX5_row 0 = .ok (.iload_n 1, 1) := by decide +kernel
theorem dX5_row_1 : decode cX5_row 1 = .ok (.iconst 0, 1) := by decide +kernel
theorem dX5_row_2 : decode cX5_row 2 = .ok (.bipush 9, 2) := by decide +kernel
theorem dX5_row_4 : decode cX5_row 4 = .ok (.invokestatic 44, 3) := by decide +kernel
theorem dX5_row_7 : decode cX5_row 7 = .ok (.istore_n 2, 1) := by decide +kernel
theorem dX5_row_8 : decode cX5_row 8 = .ok (.iload_n 2, 1) := by decide +kernel
theorem dX5_row_9 : decode cX5_row 9 = .ok (.ifCond .eq 9, 3) := by decide +kernel
theorem dX5_row_12 : decode cX5_row 12 = .ok (.aload_n 0, 1) := by decide +kernel
theorem dX5_row_13 : decode cX5_row 13 = .ok (.iload_n 2, 1) := by decide +kernel
theorem dX5_row_14 : decode cX5_row 14 = .ok (.invokevirtual 48, 3) := by decide +kernel
theorem dX5_row_17 : decode cX5_row 17 = .ok (.ireturn, 1) := by decide +kernel
theorem dX5_row_18 : decode cX5_row 18 = .ok (.aload_n 0, 1) := by decide +kernel
theorem dX5_row_19 : decode cX5_row 19 = .ok (.getfield 37, 3) := by decide +kernel
theorem dX5_row_22 : decode cX5_row 22 = .ok (.bipush 6, 2) := by decide +kernel
theorem dX5_row_24 : decode cX5_row 24 = .ok (.if_icmp .lt 10, 3) := by decide +kernel
theorem dX5_row_27 : decode cX5_row 27 = .ok (.aload_n 0, 1) := by decide +kernel
theorem dX5_row_28 : decode cX5_row 28 = .ok (.bipush (-6), 2) := by decide +kernel
theorem dX5_row_30 : decode cX5_row 30 = .ok (.invokevirtual 48, 3) := by decide +kernel
theorem dX5_row_33 : decode cX5_row 33 = .ok (.ireturn, 1) := by decide +kernel
theorem dX5_row_34 : decode cX5_row 34 = .ok (.aload_n 0, 1) := by decide +kernel
theorem dX5_row_35 : decode cX5_row 35 = .ok (.getfield 33, 3) := by decide +kernel
theorem dX5_row_38 : decode cX5_row 38 = .ok (.aload_n 0, 1) := by decide +kernel
theorem dX5_row_39 : decode cX5_row 39 = .ok (.getfield 37, 3) := by decide +kernel
theorem dX5_row_42 : decode cX5_row 42 = .ok (.iload_n 1, 1) := by decide +kernel
theorem dX5_row_43 : decode cX5_row 43 = .ok (.invokestatic 151, 3) := by decide +kernel
theorem dX5_row_46 : decode cX5_row 46 = .ok (.aload_n 0, 1) := by decide +kernel
theorem dX5_row_47 : decode cX5_row 47 = .ok (.dup, 1) := by decide +kernel
theorem dX5_row_48 : decode cX5_row 48 = .ok (.getfield 37, 3) := by decide +kernel
theorem dX5_row_51 : decode cX5_row 51 = .ok (.iconst 1, 1) := by decide +kernel
theorem dX5_row_52 : decode cX5_row 52 = .ok (.iadd, 1) := by decide +kernel
theorem dX5_row_53 : decode cX5_row 53 = .ok (.putfield 37, 3) := by decide +kernel
theorem dX5_row_56 : decode cX5_row 56 = .ok (.aload_n 0, 1) := by decide +kernel
theorem dX5_row_57 : decode cX5_row 57 = .ok (.getfield 37, 3) := by decide +kernel
theorem dX5_row_60 : decode cX5_row 60 = .ok (.ireturn, 1) := by decide +kernel
theorem dX5_otherwise_0 : decode cX5_otherwise 0 = .ok (.iload_n 1, 1) := by decide +kernel
theorem dX5_otherwise_1 : decode cX5_otherwise 1 = .ok (.iconst 0, 1) := by decide +kernel
theorem dX5_otherwise_2 : decode cX5_otherwise 2 = .ok (.bipush 60, 2) := by decide +kernel
theorem dX5_otherwise_4 : decode cX5_otherwise 4 = .ok (.invokestatic 44, 3) := by decide +kernel
theorem dX5_otherwise_7 : decode cX5_otherwise 7 = .ok (.istore_n 3, 1) := by decide +kernel
theorem dX5_otherwise_8 : decode cX5_otherwise 8 = .ok (.iload_n 3, 1) := by decide +kernel
theorem dX5_otherwise_9 : decode cX5_otherwise 9 = .ok (.ifCond .ne 13, 3) := by decide +kernel
theorem dX5_otherwise_12 : decode cX5_otherwise 12 = .ok (.iload_n 2, 1) := by decide +kernel
theorem dX5_otherwise_13 : decode cX5_otherwise 13 = .ok (.invokestatic 172, 3) := by decide +kernel
theorem dX5_otherwise_16 : decode cX5_otherwise 16 = .ok (.ifCond .eq 6, 3) := by decide +kernel
theorem dX5_otherwise_19 : decode cX5_otherwise 19 = .ok (.bipush (-2), 2) := by decide +kernel
theorem dX5_otherwise_21 : decode cX5_otherwise 21 = .ok (.istore_n 3, 1) := by decide +kernel
theorem dX5_otherwise_22 : decode cX5_otherwise 22 = .ok (.iload_n 3, 1) := by decide +kernel
theorem dX5_otherwise_23 : decode cX5_otherwise 23 = .ok (.ifCond .ne 23, 3) := by decide +kernel
theorem dX5_otherwise_26 : decode cX5_otherwise 26 = .ok (.aload_n 0, 1) := by decide +kernel
theorem dX5_otherwise_27 : decode cX5_otherwise 27 = .ok (.getfield 37, 3) := by decide +kernel
theorem dX5_otherwise_30 : decode cX5_otherwise 30 = .ok (.aload_n 0, 1) := by decide +kernel
theorem dX5_otherwise_31 : decode cX5_otherwise 31 = .ok (.getfield 10, 3) := by decide +kernel
theorem dX5_otherwise_34 : decode cX5_otherwise 34 = .ok (.getfield 96, 3) := by decide +kernel
theorem dX5_otherwise_37 : decode cX5_otherwise 37 = .ok (.getfield 202, 3) := by decide +kernel
theorem dX5_otherwise_40 : decode cX5_otherwise 40 = .ok (.if_icmp .eq 6, 3) := by decide +kernel
theorem dX5_otherwise_43 : decode cX5_otherwise 43 = .ok (.bipush (-3), 2) := by decide +kernel
theorem dX5_otherwise_45 : decode cX5_otherwise 45 = .ok (.istore_n 3, 1) := by decide +kernel
theorem dX5_otherwise_46 : decode cX5_otherwise 46 = .ok (.iload_n 3, 1) := by decide +kernel
theorem dX5_otherwise_47 : decode cX5_otherwise 47 = .ok (.ifCond .eq 9, 3) := by decide +kernel
theorem dX5_otherwise_50 : decode cX5_otherwise 50 = .ok (.aload_n 0, 1) := by decide +kernel
theorem dX5_otherwise_51 : decode cX5_otherwise 51 = .ok (.iload_n 3, 1) := by decide +kernel
theorem dX5_otherwise_52 : decode cX5_otherwise 52 = .ok (.invokevirtual 48, 3) := by decide +kernel
theorem dX5_otherwise_55 : decode cX5_otherwise 55 = .ok (.ireturn, 1) := by decide +kernel
theorem dX5_otherwise_56 : decode cX5_otherwise 56 = .ok (.iconst 0, 1) := by decide +kernel
theorem dX5_otherwise_57 : decode cX5_otherwise 57 = .ok (.istore 4, 2) := by decide +kernel
theorem dX5_otherwise_59 : decode cX5_otherwise 59 = .ok (.bipush (-9), 2) := by decide +kernel
theorem dX5_otherwise_61 : decode cX5_otherwise 61 = .ok (.istore 5, 2) := by decide +kernel
theorem dX5_otherwise_63 : decode cX5_otherwise 63 = .ok (.iconst 0, 1) := by decide +kernel
theorem dX5_otherwise_64 : decode cX5_otherwise 64 = .ok (.istore 6, 2) := by decide +kernel
theorem dX5_otherwise_66 : decode cX5_otherwise 66 = .ok (.iload 6, 2) := by decide +kernel
theorem dX5_otherwise_68 : decode cX5_otherwise 68 = .ok (.aload_n 0, 1) := by decide +kernel
theorem dX5_otherwise_69 : decode cX5_otherwise 69 = .ok (.getfield 10, 3) := by decide +kernel
theorem dX5_otherwise_72 : decode cX5_otherwise 72 = .ok (.getfield 96, 3) := by decide +kernel
theorem dX5_otherwise_75 : decode cX5_otherwise 75 = .ok (.getfield 202, 3) := by decide +kernel
theorem dX5_otherwise_78 : decode cX5_otherwise 78 = .ok (.if_icmp .ge 112, 3) := by decide +kernel
theorem dX5_otherwise_81 : decode cX5_otherwise 81 = .ok (.iconst 0, 1) := by decide +kernel
theorem dX5_otherwise_82 : decode cX5_otherwise 82 = .ok (.istore 7, 2) := by decide +kernel
theorem dX5_otherwise_84 : decode cX5_otherwise 84 = .ok (.iload 7, 2) := by decide +kernel
theorem dX5_otherwise_86 : decode cX5_otherwise 86 = .ok (.aload_n 0, 1) := by decide +kernel
theorem dX5_otherwise_87 : decode cX5_otherwise 87 = .ok (.getfield 10, 3) := by decide +kernel
theorem dX5_otherwise_90 : decode cX5_otherwise 90 = .ok (.getfield 70, 3) := by decide +kernel
theorem dX5_otherwise_93 : decode cX5_otherwise 93 = .ok (.getfield 185, 3) := by decide +kernel
theorem dX5_otherwise_96 : decode cX5_otherwise 96 = .ok (.if_icmp .gt 88, 3) := by decide +kernel
theorem dX5_otherwise_99 : decode cX5_otherwise 99 = .ok (.iload 7, 2) := by decide +kernel
theorem dX5_otherwise_101 : decode cX5_otherwise 101 = .ok (.aload_n 0, 1) := by decide +kernel
theorem dX5_otherwise_102 : decode cX5_otherwise 102 = .ok (.getfield 10, 3) := by decide +kernel
theorem dX5_otherwise_105 : decode cX5_otherwise 105 = .ok (.getfield 70, 3) := by decide +kernel
theorem dX5_otherwise_108 : decode cX5_otherwise 108 = .ok (.getfield 185, 3) := by decide +kernel
theorem dX5_otherwise_111 : decode cX5_otherwise 111 = .ok (.if_icmp .ge 8, 3) := by decide +kernel
theorem dX5_otherwise_114 : decode cX5_otherwise 114 = .ok (.iload 7, 2) := by decide +kernel
theorem dX5_otherwise_116 : decode cX5_otherwise 116 = .ok (.goto 5, 3) := by decide +kernel
theorem dX5_otherwise_119 : decode cX5_otherwise 119 = .ok (.bipush (-9), 2) := by decide +kernel
theorem dX5_otherwise_121 : decode cX5_otherwise 121 = .ok (.istore 8, 2) := by decide +kernel
theorem dX5_otherwise_123 : decode cX5_otherwise 123 = .ok (.iload 8, 2) := by decide +kernel
theorem dX5_otherwise_125 : decode cX5_otherwise 125 = .ok (.aload_n 0, 1) := by decide +kernel
theorem dX5_otherwise_126 : decode cX5_otherwise 126 = .ok (.getfield 10, 3) := by decide +kernel
theorem dX5_otherwise_129 : decode cX5_otherwise 129 = .ok (.getfield 96, 3) := by decide +kernel
theorem dX5_otherwise_132 : decode cX5_otherwise 132 = .ok (.getfield 113, 3) := by decide +kernel
theorem dX5_otherwise_135 : decode cX5_otherwise 135 = .ok (.iload 6, 2) := by decide +kernel
theorem dX5_otherwise_137 : decode cX5_otherwise 137 = .ok (.invokestatic 83, 3) := by decide +kernel
theorem dX5_otherwise_140 : decode cX5_otherwise 140 = .ok (.if_icmp .eq 38, 3) := by decide +kernel
theorem dX5_otherwise_143 : decode cX5_otherwise 143 = .ok (.aload_n 0, 1) := by decide +kernel
theorem dX5_otherwise_144 : decode cX5_otherwise 144 = .ok (.iload 6, 2) := by decide +kernel
theorem dX5_otherwise_146 : decode cX5_otherwise 146 = .ok (.iload 8, 2) := by decide +kernel
theorem dX5_otherwise_148 : decode cX5_otherwise 148 = .ok (.iload_n 1, 1) := by decide +kernel
theorem dX5_otherwise_149 : decode cX5_otherwise 149 = .ok (.invokevirtual 214, 3) := by decide +kernel
theorem dX5_otherwise_152 : decode cX5_otherwise 152 = .ok (.ifCond .eq 26, 3) := by decide +kernel
theorem dX5_otherwise_155 : decode cX5_otherwise 155 = .ok (.iinc 4 1, 3) := by decide +kernel
theorem dX5_otherwise_158 : decode cX5_otherwise 158 = .ok (.iload 5, 2) := by decide +kernel
theorem dX5_otherwise_160 : decode cX5_otherwise 160 = .ok (.bipush (-9), 2) := by decide +kernel
theorem dX5_otherwise_162 : decode cX5_otherwise 162 = .ok (.if_icmp .ne 16, 3) := by decide +kernel
theorem dX5_otherwise_165 : decode cX5_otherwise 165 = .ok (.bipush 10, 2) := by decide +kernel
theorem dX5_otherwise_167 : decode cX5_otherwise 167 = .ok (.iload 6, 2) := by decide +kernel
theorem dX5_otherwise_169 : decode cX5_otherwise 169 = .ok (.imul, 1) := by decide +kernel
theorem dX5_otherwise_170 : decode cX5_otherwise 170 = .ok (.iload 8, 2) := by decide +kernel
theorem dX5_otherwise_172 : decode cX5_otherwise 172 = .ok (.invokestatic 217, 3) := by decide +kernel
theorem dX5_otherwise_175 : decode cX5_otherwise 175 = .ok (.iadd, 1) := by decide +kernel
theorem dX5_otherwise_176 : decode cX5_otherwise 176 = .ok (.istore 5, 2) := by decide +kernel
theorem dX5_otherwise_178 : decode cX5_otherwise 178 = .ok (.iinc 7 1, 3) := by decide +kernel
theorem dX5_otherwise_181 : decode cX5_otherwise 181 = .ok (.goto (-97), 3) := by decide +kernel
theorem dX5_otherwise_184 : decode cX5_otherwise 184 = .ok (.iinc 6 1, 3) := by decide +kernel
theorem dX5_otherwise_187 : decode cX5_otherwise 187 = .ok (.goto (-121), 3) := by decide +kernel
theorem dX5_otherwise_190 : decode cX5_otherwise 190 = .ok (.iload_n 2, 1) := by decide +kernel
theorem dX5_otherwise_191 : decode cX5_otherwise 191 = .ok (.ifCond .ne 8, 3) := by decide +kernel
theorem dX5_otherwise_194 : decode cX5_otherwise 194 = .ok (.iload 4, 2) := by decide +kernel
theorem dX5_otherwise_196 : decode cX5_otherwise 196 = .ok (.goto 5, 3) := by decide +kernel
theorem dX5_otherwise_199 : decode cX5_otherwise 199 = .ok (.iload 5, 2) := by decide +kernel
theorem dX5_otherwise_201 : decode cX5_otherwise 201 = .ok (.ireturn, 1) := by decide +kernel
theorem dX5_judge_0 : decode cX5_judge 0 = .ok (.aload_n 0, 1) := by decide +kernel
theorem dX5_judge_1 : decode cX5_judge 1 = .ok (.getfield 37, 3) := by decide +kernel
theorem dX5_judge_4 : decode cX5_judge 4 = .ok (.aload_n 0, 1) := by decide +kernel
theorem dX5_judge_5 : decode cX5_judge 5 = .ok (.getfield 10, 3) := by decide +kernel
theorem dX5_judge_8 : decode cX5_judge 8 = .ok (.getfield 96, 3) := by decide +kernel
theorem dX5_judge_11 : decode cX5_judge 11 = .ok (.getfield 202, 3) := by decide +kernel
theorem dX5_judge_14 : decode cX5_judge 14 = .ok (.invokestatic 220, 3) := by decide +kernel
theorem dX5_judge_17 : decode cX5_judge 17 = .ok (.istore_n 1, 1) := by decide +kernel
theorem dX5_judge_18 : decode cX5_judge 18 = .ok (.aload_n 0, 1) := by decide +kernel
theorem dX5_judge_19 : decode cX5_judge 19 = .ok (.aload_n 0, 1) := by decide +kernel
theorem dX5_judge_20 : decode cX5_judge 20 = .ok (.getfield 10, 3) := by decide +kernel
theorem dX5_judge_23 : decode cX5_judge 23 = .ok (.getfield 96, 3) := by decide +kernel
theorem dX5_judge_26 : decode cX5_judge 26 = .ok (.iload_n 1, 1) := by decide +kernel
theorem dX5_judge_27 : decode cX5_judge 27 = .ok (.invokevirtual 225, 3) := by decide +kernel
theorem dX5_judge_30 : decode cX5_judge 30 = .ok (.istore_n 2, 1) := by decide +kernel
theorem dX5_judge_31 : decode cX5_judge 31 = .ok (.aload_n 0, 1) := by decide +kernel
theorem dX5_judge_32 : decode cX5_judge 32 = .ok (.getfield 37, 3) := by decide +kernel
theorem dX5_judge_35 : decode cX5_judge 35 = .ok (.aload_n 0, 1) := by decide +kernel
theorem dX5_judge_36 : decode cX5_judge 36 = .ok (.getfield 10, 3) := by decide +kernel
theorem dX5_judge_39 : decode cX5_judge 39 = .ok (.getfield 96, 3) := by decide +kernel
theorem dX5_judge_42 : decode cX5_judge 42 = .ok (.getfield 202, 3) := by decide +kernel
theorem dX5_judge_45 : decode cX5_judge 45 = .ok (.if_icmp .ne 7, 3) := by decide +kernel
theorem dX5_judge_48 : decode cX5_judge 48 = .ok (.iconst 1, 1) := by decide +kernel
theorem dX5_judge_49 : decode cX5_judge 49 = .ok (.goto 4, 3) := by decide +kernel
theorem dX5_judge_52 : decode cX5_judge 52 = .ok (.iconst 0, 1) := by decide +kernel
theorem dX5_judge_53 : decode cX5_judge 53 = .ok (.istore_n 3, 1) := by decide +kernel
theorem dX5_judge_54 : decode cX5_judge 54 = .ok (.aload_n 0, 1) := by decide +kernel
theorem dX5_judge_55 : decode cX5_judge 55 = .ok (.iconst 0, 1) := by decide +kernel
theorem dX5_judge_56 : decode cX5_judge 56 = .ok (.putfield 37, 3) := by decide +kernel
theorem dX5_judge_59 : decode cX5_judge 59 = .ok (.iload_n 2, 1) := by decide +kernel
theorem dX5_judge_60 : decode cX5_judge 60 = .ok (.bipush (-9), 2) := by decide +kernel
theorem dX5_judge_62 : decode cX5_judge 62 = .ok (.if_icmp .ne 7, 3) := by decide +kernel
theorem dX5_judge_65 : decode cX5_judge 65 = .ok (.iload_n 3, 1) := by decide +kernel
theorem dX5_judge_66 : decode cX5_judge 66 = .ok (.ifCond .eq 5, 3) := by decide +kernel
theorem dX5_judge_69 : decode cX5_judge 69 = .ok (.iload_n 2, 1) := by decide +kernel
theorem dX5_judge_70 : decode cX5_judge 70 = .ok (.ireturn, 1) := by decide +kernel
theorem dX5_judge_71 : decode cX5_judge 71 = .ok (.iload_n 1, 1) := by decide +kernel
theorem dX5_judge_72 : decode cX5_judge 72 = .ok (.ireturn, 1) := by decide +kernel
theorem dX5_seeds_0 : decode cX5_seeds 0 = .ok (.iload_n 1, 1) := by decide +kernel
theorem dX5_seeds_1 : decode cX5_seeds 1 = .ok (.iconst 1, 1) := by decide +kernel
theorem dX5_seeds_2 : decode cX5_seeds 2 = .ok (.bipush 40, 2) := by decide +kernel
theorem dX5_seeds_4 : decode cX5_seeds 4 = .ok (.invokestatic 44, 3) := by decide +kernel
theorem dX5_seeds_7 : decode cX5_seeds 7 = .ok (.istore_n 3, 1) := by decide +kernel
theorem dX5_seeds_8 : decode cX5_seeds 8 = .ok (.iload_n 3, 1) := by decide +kernel
theorem dX5_seeds_9 : decode cX5_seeds 9 = .ok (.ifCond .eq 9, 3) := by decide +kernel
theorem dX5_seeds_12 : decode cX5_seeds 12 = .ok (.aload_n 0, 1) := by decide +kernel
theorem dX5_seeds_13 : decode cX5_seeds 13 = .ok (.iload_n 3, 1) := by decide +kernel
theorem dX5_seeds_14 : decode cX5_seeds 14 = .ok (.invokevirtual 48, 3) := by decide +kernel
theorem dX5_seeds_17 : decode cX5_seeds 17 = .ok (.ireturn, 1) := by decide +kernel
theorem dX5_seeds_18 : decode cX5_seeds 18 = .ok (.aload_n 0, 1) := by decide +kernel
theorem dX5_seeds_19 : decode cX5_seeds 19 = .ok (.getfield 16, 3) := by decide +kernel
theorem dX5_seeds_22 : decode cX5_seeds 22 = .ok (.aload_n 0, 1) := by decide +kernel
theorem dX5_seeds_23 : decode cX5_seeds 23 = .ok (.getfield 10, 3) := by decide +kernel
theorem dX5_seeds_26 : decode cX5_seeds 26 = .ok (.invokevirtual 181, 3) := by decide +kernel
theorem dX5_seeds_29 : decode cX5_seeds 29 = .ok (.iload_n 2, 1) := by decide +kernel
theorem dX5_seeds_30 : decode cX5_seeds 30 = .ok (.istore 4, 2) := by decide +kernel
theorem dX5_seeds_32 : decode cX5_seeds 32 = .ok (.iconst 0, 1) := by decide +kernel
theorem dX5_seeds_33 : decode cX5_seeds 33 = .ok (.istore 5, 2) := by decide +kernel
theorem dX5_seeds_35 : decode cX5_seeds 35 = .ok (.iload 5, 2) := by decide +kernel
theorem dX5_seeds_37 : decode cX5_seeds 37 = .ok (.iload_n 1, 1) := by decide +kernel
theorem dX5_seeds_38 : decode cX5_seeds 38 = .ok (.if_icmp .ge 77, 3) := by decide +kernel
theorem dX5_seeds_41 : decode cX5_seeds 41 = .ok (.iconst 0, 1) := by decide +kernel
theorem dX5_seeds_42 : decode cX5_seeds 42 = .ok (.istore 6, 2) := by decide +kernel
theorem dX5_seeds_44 : decode cX5_seeds 44 = .ok (.iload 6, 2) := by decide +kernel
theorem dX5_seeds_46 : decode cX5_seeds 46 = .ok (.aload_n 0, 1) := by decide +kernel
theorem dX5_seeds_47 : decode cX5_seeds 47 = .ok (.getfield 16, 3) := by decide +kernel
theorem dX5_seeds_50 : decode cX5_seeds 50 = .ok (.getfield 96, 3) := by decide +kernel
theorem dX5_seeds_53 : decode cX5_seeds 53 = .ok (.getfield 202, 3) := by decide +kernel
theorem dX5_seeds_56 : decode cX5_seeds 56 = .ok (.if_icmp .ge 45, 3) := by decide +kernel
theorem dX5_seeds_59 : decode cX5_seeds 59 = .ok (.iload 4, 2) := by decide +kernel
theorem dX5_seeds_61 : decode cX5_seeds 61 = .ok (.ldc 229, 2) := by decide +kernel
theorem dX5_seeds_63 : decode cX5_seeds 63 = .ok (.imul, 1) := by decide +kernel
theorem dX5_seeds_64 : decode cX5_seeds 64 = .ok (.ldc 230, 2) := by decide +kernel
theorem dX5_seeds_66 : decode cX5_seeds 66 = .ok (.iadd, 1) := by decide +kernel
theorem dX5_seeds_67 : decode cX5_seeds 67 = .ok (.istore 4, 2) := by decide +kernel
theorem dX5_seeds_69 : decode cX5_seeds 69 = .ok (.aload_n 0, 1) := by decide +kernel
theorem dX5_seeds_70 : decode cX5_seeds 70 = .ok (.getfield 16, 3) := by decide +kernel
theorem dX5_seeds_73 : decode cX5_seeds 73 = .ok (.getfield 96, 3) := by decide +kernel
theorem dX5_seeds_76 : decode cX5_seeds 76 = .ok (.getfield 107, 3) := by decide +kernel
theorem dX5_seeds_79 : decode cX5_seeds 79 = .ok (.iload 6, 2) := by decide +kernel
theorem dX5_seeds_81 : decode cX5_seeds 81 = .ok (.iload 4, 2) := by decide +kernel
theorem dX5_seeds_83 : decode cX5_seeds 83 = .ok (.ldc 231, 2) := by decide +kernel
theorem dX5_seeds_85 : decode cX5_seeds 85 = .ok (.iand, 1) := by decide +kernel
theorem dX5_seeds_86 : decode cX5_seeds 86 = .ok (.sipush 256, 3) := by decide +kernel
theorem dX5_seeds_89 : decode cX5_seeds 89 = .ok (.idiv, 1) := by decide +kernel
theorem dX5_seeds_90 : decode cX5_seeds 90 = .ok (.iconst 5, 1) := by decide +kernel
theorem dX5_seeds_91 : decode cX5_seeds 91 = .ok (.irem, 1) := by decide +kernel
theorem dX5_seeds_92 : decode cX5_seeds 92 = .ok (.invokestatic 151, 3) := by decide +kernel
theorem dX5_seeds_95 : decode cX5_seeds 95 = .ok (.iinc 6 1, 3) := by decide +kernel
theorem dX5_seeds_98 : decode cX5_seeds 98 = .ok (.goto (-54), 3) := by decide +kernel
theorem dX5_seeds_101 : decode cX5_seeds 101 = .ok (.aload_n 0, 1) := by decide +kernel
theorem dX5_seeds_102 : decode cX5_seeds 102 = .ok (.getfield 16, 3) := by decide +kernel
theorem dX5_seeds_105 : decode cX5_seeds 105 = .ok (.invokevirtual 165, 3) := by decide +kernel
theorem dX5_seeds_108 : decode cX5_seeds 108 = .ok (.pop, 1) := by decide +kernel
theorem dX5_seeds_109 : decode cX5_seeds 109 = .ok (.iinc 5 1, 3) := by decide +kernel
theorem dX5_seeds_112 : decode cX5_seeds 112 = .ok (.goto (-77), 3) := by decide +kernel
theorem dX5_seeds_115 : decode cX5_seeds 115 = .ok (.aload_n 0, 1) := by decide +kernel
theorem dX5_seeds_116 : decode cX5_seeds 116 = .ok (.getfield 16, 3) := by decide +kernel
theorem dX5_seeds_119 : decode cX5_seeds 119 = .ok (.getfield 96, 3) := by decide +kernel
theorem dX5_seeds_122 : decode cX5_seeds 122 = .ok (.iconst (-1), 1) := by decide +kernel
theorem dX5_seeds_123 : decode cX5_seeds 123 = .ok (.invokevirtual 100, 3) := by decide +kernel
theorem dX5_seeds_126 : decode cX5_seeds 126 = .ok (.ireturn, 1) := by decide +kernel
theorem dX5_image_0 : decode cX5_image 0 = .ok (.aload_n 0, 1) := by decide +kernel
theorem dX5_image_1 : decode cX5_image 1 = .ok (.getfield 19, 3) := by decide +kernel
theorem dX5_image_4 : decode cX5_image 4 = .ok (.aload_n 0, 1) := by decide +kernel
theorem dX5_image_5 : decode cX5_image 5 = .ok (.getfield 10, 3) := by decide +kernel
theorem dX5_image_8 : decode cX5_image 8 = .ok (.invokevirtual 181, 3) := by decide +kernel
theorem dX5_image_11 : decode cX5_image 11 = .ok (.aload_n 0, 1) := by decide +kernel
theorem dX5_image_12 : decode cX5_image 12 = .ok (.iconst 1, 1) := by decide +kernel
theorem dX5_image_13 : decode cX5_image 13 = .ok (.putfield 22, 3) := by decide +kernel
theorem dX5_image_16 : decode cX5_image 16 = .ok (.aload_n 0, 1) := by decide +kernel
theorem dX5_image_17 : decode cX5_image 17 = .ok (.getfield 10, 3) := by decide +kernel
theorem dX5_image_20 : decode cX5_image 20 = .ok (.getfield 128, 3) := by decide +kernel
theorem dX5_image_23 : decode cX5_image 23 = .ok (.ireturn, 1) := by decide +kernel
theorem dX5_on_0 : decode cX5_on 0 = .ok (.aload_n 0, 1) := by decide +kernel
theorem dX5_on_1 : decode cX5_on 1 = .ok (.getfield 22, 3) := by decide +kernel
theorem dX5_on_4 : decode cX5_on 4 = .ok (.ifCond .ne 10, 3) := by decide +kernel
theorem dX5_on_7 : decode cX5_on 7 = .ok (.aload_n 0, 1) := by decide +kernel
theorem dX5_on_8 : decode cX5_on 8 = .ok (.bipush (-3), 2) := by decide +kernel
theorem dX5_on_10 : decode cX5_on 10 = .ok (.invokevirtual 48, 3) := by decide +kernel
theorem dX5_on_13 : decode cX5_on 13 = .ok (.ireturn, 1) := by decide +kernel
theorem dX5_on_14 : decode cX5_on 14 = .ok (.aload_n 0, 1) := by decide +kernel
theorem dX5_on_15 : decode cX5_on 15 = .ok (.getfield 10, 3) := by decide +kernel
theorem dX5_on_18 : decode cX5_on 18 = .ok (.aload_n 0, 1) := by decide +kernel
theorem dX5_on_19 : decode cX5_on 19 = .ok (.getfield 19, 3) := by decide +kernel
theorem dX5_on_22 : decode cX5_on 22 = .ok (.invokevirtual 181, 3) := by decide +kernel
theorem dX5_on_25 : decode cX5_on 25 = .ok (.aload_n 0, 1) := by decide +kernel
theorem dX5_on_26 : decode cX5_on 26 = .ok (.getfield 10, 3) := by decide +kernel
theorem dX5_on_29 : decode cX5_on 29 = .ok (.getfield 128, 3) := by decide +kernel
theorem dX5_on_32 : decode cX5_on 32 = .ok (.ireturn, 1) := by decide +kernel
theorem dX5_count_0 : decode cX5_count 0 = .ok (.iload_n 1, 1) := by decide +kernel
theorem dX5_count_1 : decode cX5_count 1 = .ok (.tableswitch 151 0 9 #[55, 66, 77, 88, 99, 107, 115, 127, 138, 143], 55) := by decide +kernel
theorem dX5_count_56 : decode cX5_count 56 = .ok (.aload_n 0, 1) := by decide +kernel
theorem dX5_count_57 : decode cX5_count 57 = .ok (.getfield 10, 3) := by decide +kernel
theorem dX5_count_60 : decode cX5_count 60 = .ok (.getfield 96, 3) := by decide +kernel
theorem dX5_count_63 : decode cX5_count 63 = .ok (.getfield 202, 3) := by decide +kernel
theorem dX5_count_66 : decode cX5_count 66 = .ok (.ireturn, 1) := by decide +kernel
theorem dX5_count_67 : decode cX5_count 67 = .ok (.aload_n 0, 1) := by decide +kernel
theorem dX5_count_68 : decode cX5_count 68 = .ok (.getfield 10, 3) := by decide +kernel
theorem dX5_count_71 : decode cX5_count 71 = .ok (.getfield 70, 3) := by decide +kernel
theorem dX5_count_74 : decode cX5_count 74 = .ok (.getfield 185, 3) := by decide +kernel
theorem dX5_count_77 : decode cX5_count 77 = .ok (.ireturn, 1) := by decide +kernel
theorem dX5_count_78 : decode cX5_count 78 = .ok (.aload_n 0, 1) := by decide +kernel
theorem dX5_count_79 : decode cX5_count 79 = .ok (.getfield 10, 3) := by decide +kernel
theorem dX5_count_82 : decode cX5_count 82 = .ok (.getfield 138, 3) := by decide +kernel
theorem dX5_count_85 : decode cX5_count 85 = .ok (.getfield 195, 3) := by decide +kernel
theorem dX5_count_88 : decode cX5_count 88 = .ok (.ireturn, 1) := by decide +kernel
theorem dX5_count_89 : decode cX5_count 89 = .ok (.aload_n 0, 1) := by decide +kernel
theorem dX5_count_90 : decode cX5_count 90 = .ok (.getfield 10, 3) := by decide +kernel
theorem dX5_count_93 : decode cX5_count 93 = .ok (.getfield 138, 3) := by decide +kernel
theorem dX5_count_96 : decode cX5_count 96 = .ok (.invokevirtual 232, 3) := by decide +kernel
theorem dX5_count_99 : decode cX5_count 99 = .ok (.ireturn, 1) := by decide +kernel
theorem dX5_count_100 : decode cX5_count 100 = .ok (.aload_n 0, 1) := by decide +kernel
theorem dX5_count_101 : decode cX5_count 101 = .ok (.getfield 10, 3) := by decide +kernel
theorem dX5_count_104 : decode cX5_count 104 = .ok (.getfield 128, 3) := by decide +kernel
theorem dX5_count_107 : decode cX5_count 107 = .ok (.ireturn, 1) := by decide +kernel
theorem dX5_count_108 : decode cX5_count 108 = .ok (.aload_n 0, 1) := by decide +kernel
theorem dX5_count_109 : decode cX5_count 109 = .ok (.getfield 10, 3) := by decide +kernel
theorem dX5_count_112 : decode cX5_count 112 = .ok (.getfield 125, 3) := by decide +kernel
theorem dX5_count_115 : decode cX5_count 115 = .ok (.ireturn, 1) := by decide +kernel
theorem dX5_count_116 : decode cX5_count 116 = .ok (.aload_n 0, 1) := by decide +kernel
theorem dX5_count_117 : decode cX5_count 117 = .ok (.getfield 10, 3) := by decide +kernel
theorem dX5_count_120 : decode cX5_count 120 = .ok (.getfield 96, 3) := by decide +kernel
theorem dX5_count_123 : decode cX5_count 123 = .ok (.iconst (-1), 1) := by decide +kernel
theorem dX5_count_124 : decode cX5_count 124 = .ok (.invokevirtual 100, 3) := by decide +kernel
theorem dX5_count_127 : decode cX5_count 127 = .ok (.ireturn, 1) := by decide +kernel
theorem dX5_count_128 : decode cX5_count 128 = .ok (.aload_n 0, 1) := by decide +kernel
theorem dX5_count_129 : decode cX5_count 129 = .ok (.getfield 10, 3) := by decide +kernel
theorem dX5_count_132 : decode cX5_count 132 = .ok (.getfield 96, 3) := by decide +kernel
theorem dX5_count_135 : decode cX5_count 135 = .ok (.invokevirtual 235, 3) := by decide +kernel
theorem dX5_count_138 : decode cX5_count 138 = .ok (.ireturn, 1) := by decide +kernel
theorem dX5_count_139 : decode cX5_count 139 = .ok (.aload_n 0, 1) := by decide +kernel
theorem dX5_count_140 : decode cX5_count 140 = .ok (.getfield 37, 3) := by decide +kernel
theorem dX5_count_143 : decode cX5_count 143 = .ok (.ireturn, 1) := by decide +kernel
theorem dX5_count_144 : decode cX5_count 144 = .ok (.aload_n 0, 1) := by decide +kernel
theorem dX5_count_145 : decode cX5_count 145 = .ok (.getfield 29, 3) := by decide +kernel
theorem dX5_count_148 : decode cX5_count 148 = .ok (.getfield 60, 3) := by decide +kernel
theorem dX5_count_151 : decode cX5_count 151 = .ok (.ireturn, 1) := by decide +kernel
theorem dX5_count_152 : decode cX5_count 152 = .ok (.iload_n 1, 1) := by decide +kernel
theorem dX5_count_153 : decode cX5_count 153 = .ok (.bipush 11, 2) := by decide +kernel
theorem dX5_count_155 : decode cX5_count 155 = .ok (.if_icmp .lt 23, 3) := by decide +kernel
theorem dX5_count_158 : decode cX5_count 158 = .ok (.iload_n 1, 1) := by decide +kernel
theorem dX5_count_159 : decode cX5_count 159 = .ok (.bipush 16, 2) := by decide +kernel
theorem dX5_count_161 : decode cX5_count 161 = .ok (.if_icmp .gt 17, 3) := by decide +kernel
theorem dX5_count_164 : decode cX5_count 164 = .ok (.aload_n 0, 1) := by decide +kernel
theorem dX5_count_165 : decode cX5_count 165 = .ok (.getfield 41, 3) := by decide +kernel
theorem dX5_count_168 : decode cX5_count 168 = .ok (.iload_n 1, 1) := by decide +kernel
theorem dX5_count_169 : decode cX5_count 169 = .ok (.bipush 10, 2) := by decide +kernel
theorem dX5_count_171 : decode cX5_count 171 = .ok (.isub, 1) := by decide +kernel
theorem dX5_count_172 : decode cX5_count 172 = .ok (.invokestatic 83, 3) := by decide +kernel
theorem dX5_count_175 : decode cX5_count 175 = .ok (.goto 5, 3) := by decide +kernel
theorem dX5_count_178 : decode cX5_count 178 = .ok (.bipush (-9), 2) := by decide +kernel
theorem dX5_count_180 : decode cX5_count 180 = .ok (.ireturn, 1) := by decide +kernel
theorem dX5_refuse_0 : decode cX5_refuse 0 = .ok (.aload_n 0, 1) := by decide +kernel
theorem dX5_refuse_1 : decode cX5_refuse 1 = .ok (.getfield 41, 3) := by decide +kernel
theorem dX5_refuse_4 : decode cX5_refuse 4 = .ok (.iload_n 1, 1) := by decide +kernel
theorem dX5_refuse_5 : decode cX5_refuse 5 = .ok (.ineg, 1) := by decide +kernel
theorem dX5_refuse_6 : decode cX5_refuse 6 = .ok (.aload_n 0, 1) := by decide +kernel
theorem dX5_refuse_7 : decode cX5_refuse 7 = .ok (.getfield 41, 3) := by decide +kernel
theorem dX5_refuse_10 : decode cX5_refuse 10 = .ok (.iload_n 1, 1) := by decide +kernel
theorem dX5_refuse_11 : decode cX5_refuse 11 = .ok (.ineg, 1) := by decide +kernel
theorem dX5_refuse_12 : decode cX5_refuse 12 = .ok (.invokestatic 83, 3) := by decide +kernel
theorem dX5_refuse_15 : decode cX5_refuse 15 = .ok (.iconst 1, 1) := by decide +kernel
theorem dX5_refuse_16 : decode cX5_refuse 16 = .ok (.iadd, 1) := by decide +kernel
theorem dX5_refuse_17 : decode cX5_refuse 17 = .ok (.invokestatic 151, 3) := by decide +kernel
theorem dX5_refuse_20 : decode cX5_refuse 20 = .ok (.iload_n 1, 1) := by decide +kernel
theorem dX5_refuse_21 : decode cX5_refuse 21 = .ok (.ireturn, 1) := by decide +kernel
theorem dX5_outside_0 : decode cX5_outside 0 = .ok (.iload_n 0, 1) := by decide +kernel
theorem dX5_outside_1 : decode cX5_outside 1 = .ok (.iload_n 1, 1) := by decide +kernel
theorem dX5_outside_2 : decode cX5_outside 2 = .ok (.if_icmp .ge 6, 3) := by decide +kernel
theorem dX5_outside_5 : decode cX5_outside 5 = .ok (.bipush (-4), 2) := by decide +kernel
theorem dX5_outside_7 : decode cX5_outside 7 = .ok (.ireturn, 1) := by decide +kernel
theorem dX5_outside_8 : decode cX5_outside 8 = .ok (.iload_n 0, 1) := by decide +kernel
theorem dX5_outside_9 : decode cX5_outside 9 = .ok (.iload_n 2, 1) := by decide +kernel
theorem dX5_outside_10 : decode cX5_outside 10 = .ok (.if_icmp .le 8, 3) := by decide +kernel
theorem dX5_outside_13 : decode cX5_outside 13 = .ok (.bipush (-6), 2) := by decide +kernel
theorem dX5_outside_15 : decode cX5_outside 15 = .ok (.goto 4, 3) := by decide +kernel
theorem dX5_outside_18 : decode cX5_outside 18 = .ok (.iconst 0, 1) := by decide +kernel
theorem dX5_outside_19 : decode cX5_outside 19 = .ok (.ireturn, 1) := by decide +kernel
theorem dX5_isNeither_0 : decode cX5_isNeither 0 = .ok (.iload_n 0, 1) := by decide +kernel
theorem dX5_isNeither_1 : decode cX5_isNeither 1 = .ok (.ifCond .eq 12, 3) := by decide +kernel
theorem dX5_isNeither_4 : decode cX5_isNeither 4 = .ok (.iload_n 0, 1) := by decide +kernel
theorem dX5_isNeither_5 : decode cX5_isNeither 5 = .ok (.iconst 1, 1) := by decide +kernel
theorem dX5_isNeither_6 : decode cX5_isNeither 6 = .ok (.if_icmp .eq 7, 3) := by decide +kernel
theorem dX5_isNeither_9 : decode cX5_isNeither 9 = .ok (.iconst 1, 1) := by decide +kernel
theorem dX5_isNeither_10 : decode cX5_isNeither 10 = .ok (.goto 4, 3) := by decide +kernel
theorem dX5_isNeither_13 : decode cX5_isNeither 13 = .ok (.iconst 0, 1) := by decide +kernel
theorem dX5_isNeither_14 : decode cX5_isNeither 14 = .ok (.ireturn, 1) := by decide +kernel
theorem dX5_isRoom_0 : decode cX5_isRoom 0 = .ok (.iload_n 0, 1) := by decide +kernel
theorem dX5_isRoom_1 : decode cX5_isRoom 1 = .ok (.ifCond .lt 12, 3) := by decide +kernel
theorem dX5_isRoom_4 : decode cX5_isRoom 4 = .ok (.iload_n 0, 1) := by decide +kernel
theorem dX5_isRoom_5 : decode cX5_isRoom 5 = .ok (.iconst 5, 1) := by decide +kernel
theorem dX5_isRoom_6 : decode cX5_isRoom 6 = .ok (.if_icmp .ge 7, 3) := by decide +kernel
theorem dX5_isRoom_9 : decode cX5_isRoom 9 = .ok (.iconst 1, 1) := by decide +kernel
theorem dX5_isRoom_10 : decode cX5_isRoom 10 = .ok (.goto 4, 3) := by decide +kernel
theorem dX5_isRoom_13 : decode cX5_isRoom 13 = .ok (.iconst 0, 1) := by decide +kernel
theorem dX5_isRoom_14 : decode cX5_isRoom 14 = .ok (.ireturn, 1) := by decide +kernel
theorem dX5_headAndHours_0 : decode cX5_headAndHours 0 = .ok (.aload_n 0, 1) := by decide +kernel
theorem dX5_headAndHours_1 : decode cX5_headAndHours 1 = .ok (.getfield 10, 3) := by decide +kernel
theorem dX5_headAndHours_4 : decode cX5_headAndHours 4 = .ok (.getfield 96, 3) := by decide +kernel
theorem dX5_headAndHours_7 : decode cX5_headAndHours 7 = .ok (.iload_n 1, 1) := by decide +kernel
theorem dX5_headAndHours_8 : decode cX5_headAndHours 8 = .ok (.invokevirtual 105, 3) := by decide +kernel
theorem dX5_headAndHours_11 : decode cX5_headAndHours 11 = .ok (.ifCond .eq 13, 3) := by decide +kernel
theorem dX5_headAndHours_14 : decode cX5_headAndHours 14 = .ok (.iload_n 2, 1) := by decide +kernel
theorem dX5_headAndHours_15 : decode cX5_headAndHours 15 = .ok (.iconst 0, 1) := by decide +kernel
theorem dX5_headAndHours_16 : decode cX5_headAndHours 16 = .ok (.bipush 60, 2) := by decide +kernel
theorem dX5_headAndHours_18 : decode cX5_headAndHours 18 = .ok (.invokestatic 44, 3) := by decide +kernel
theorem dX5_headAndHours_21 : decode cX5_headAndHours 21 = .ok (.goto 4, 3) := by decide +kernel
theorem dX5_headAndHours_24 : decode cX5_headAndHours 24 = .ok (.iconst (-1), 1) := by decide +kernel
theorem dX5_headAndHours_25 : decode cX5_headAndHours 25 = .ok (.ireturn, 1) := by decide +kernel
theorem dX5_songAndHours_0 : decode cX5_songAndHours 0 = .ok (.iload_n 1, 1) := by decide +kernel
theorem dX5_songAndHours_1 : decode cX5_songAndHours 1 = .ok (.iconst (-1), 1) := by decide +kernel
theorem dX5_songAndHours_2 : decode cX5_songAndHours 2 = .ok (.if_icmp .eq 17, 3) := by decide +kernel
theorem dX5_songAndHours_5 : decode cX5_songAndHours 5 = .ok (.aload_n 0, 1) := by decide +kernel
theorem dX5_songAndHours_6 : decode cX5_songAndHours 6 = .ok (.getfield 10, 3) := by decide +kernel
theorem dX5_songAndHours_9 : decode cX5_songAndHours 9 = .ok (.getfield 70, 3) := by decide +kernel
theorem dX5_songAndHours_12 : decode cX5_songAndHours 12 = .ok (.iload_n 1, 1) := by decide +kernel
theorem dX5_songAndHours_13 : decode cX5_songAndHours 13 = .ok (.invokevirtual 74, 3) := by decide +kernel
theorem dX5_songAndHours_16 : decode cX5_songAndHours 16 = .ok (.ifCond .eq 13, 3) := by decide +kernel
theorem dX5_songAndHours_19 : decode cX5_songAndHours 19 = .ok (.iload_n 2, 1) := by decide +kernel
theorem dX5_songAndHours_20 : decode cX5_songAndHours 20 = .ok (.iconst 0, 1) := by decide +kernel
theorem dX5_songAndHours_21 : decode cX5_songAndHours 21 = .ok (.bipush 60, 2) := by decide +kernel
theorem dX5_songAndHours_23 : decode cX5_songAndHours 23 = .ok (.invokestatic 44, 3) := by decide +kernel
theorem dX5_songAndHours_26 : decode cX5_songAndHours 26 = .ok (.goto 4, 3) := by decide +kernel
theorem dX5_songAndHours_29 : decode cX5_songAndHours 29 = .ok (.iconst (-1), 1) := by decide +kernel
theorem dX5_songAndHours_30 : decode cX5_songAndHours 30 = .ok (.ireturn, 1) := by decide +kernel
theorem dX5_lengthAndHours_0 : decode cX5_lengthAndHours 0 = .ok (.iload_n 0, 1) := by decide +kernel
theorem dX5_lengthAndHours_1 : decode cX5_lengthAndHours 1 = .ok (.iconst 1, 1) := by decide +kernel
theorem dX5_lengthAndHours_2 : decode cX5_lengthAndHours 2 = .ok (.if_icmp .lt 7, 3) := by decide +kernel
theorem dX5_lengthAndHours_5 : decode cX5_lengthAndHours 5 = .ok (.iload_n 1, 1) := by decide +kernel
theorem dX5_lengthAndHours_6 : decode cX5_lengthAndHours 6 = .ok (.ifCond .ge 6, 3) := by decide +kernel
theorem dX5_lengthAndHours_9 : decode cX5_lengthAndHours 9 = .ok (.bipush (-4), 2) := by decide +kernel
theorem dX5_lengthAndHours_11 : decode cX5_lengthAndHours 11 = .ok (.ireturn, 1) := by decide +kernel
theorem dX5_lengthAndHours_12 : decode cX5_lengthAndHours 12 = .ok (.iload_n 0, 1) := by decide +kernel
theorem dX5_lengthAndHours_13 : decode cX5_lengthAndHours 13 = .ok (.bipush 9, 2) := by decide +kernel
theorem dX5_lengthAndHours_15 : decode cX5_lengthAndHours 15 = .ok (.if_icmp .gt 9, 3) := by decide +kernel
theorem dX5_lengthAndHours_18 : decode cX5_lengthAndHours 18 = .ok (.iload_n 1, 1) := by decide +kernel
theorem dX5_lengthAndHours_19 : decode cX5_lengthAndHours 19 = .ok (.bipush 60, 2) := by decide +kernel
theorem dX5_lengthAndHours_21 : decode cX5_lengthAndHours 21 = .ok (.if_icmp .le 8, 3) := by decide +kernel
theorem dX5_lengthAndHours_24 : decode cX5_lengthAndHours 24 = .ok (.bipush (-6), 2) := by decide +kernel
theorem dX5_lengthAndHours_26 : decode cX5_lengthAndHours 26 = .ok (.goto 4, 3) := by decide +kernel
theorem dX5_lengthAndHours_29 : decode cX5_lengthAndHours 29 = .ok (.iconst 0, 1) := by decide +kernel
theorem dX5_lengthAndHours_30 : decode cX5_lengthAndHours 30 = .ok (.ireturn, 1) := by decide +kernel
theorem dX5_at_0 : decode cX5_at 0 = .ok (.iload_n 1, 1) := by decide +kernel
theorem dX5_at_1 : decode cX5_at 1 = .ok (.ifCond .lt 15, 3) := by decide +kernel
theorem dX5_at_4 : decode cX5_at 4 = .ok (.iload_n 1, 1) := by decide +kernel
theorem dX5_at_5 : decode cX5_at 5 = .ok (.aload_n 0, 1) := by decide +kernel
theorem dX5_at_6 : decode cX5_at 6 = .ok (.arraylength, 1) := by decide +kernel
theorem dX5_at_7 : decode cX5_at 7 = .ok (.if_icmp .ge 9, 3) := by decide +kernel
theorem dX5_at_10 : decode cX5_at 10 = .ok (.aload_n 0, 1) := by decide +kernel
theorem dX5_at_11 : decode cX5_at 11 = .ok (.iload_n 1, 1) := by decide +kernel
theorem dX5_at_12 : decode cX5_at 12 = .ok (.iaload, 1) := by decide +kernel
theorem dX5_at_13 : decode cX5_at 13 = .ok (.goto 5, 3) := by decide +kernel
theorem dX5_at_16 : decode cX5_at 16 = .ok (.bipush (-9), 2) := by decide +kernel
theorem dX5_at_18 : decode cX5_at 18 = .ok (.ireturn, 1) := by decide +kernel
theorem dX5_put_0 : decode cX5_put 0 = .ok (.iload_n 1, 1) := by decide +kernel
theorem dX5_put_1 : decode cX5_put 1 = .ok (.ifCond .lt 13, 3) := by decide +kernel
theorem dX5_put_4 : decode cX5_put 4 = .ok (.iload_n 1, 1) := by decide +kernel
theorem dX5_put_5 : decode cX5_put 5 = .ok (.aload_n 0, 1) := by decide +kernel
theorem dX5_put_6 : decode cX5_put 6 = .ok (.arraylength, 1) := by decide +kernel
theorem dX5_put_7 : decode cX5_put 7 = .ok (.if_icmp .ge 7, 3) := by decide +kernel
theorem dX5_put_10 : decode cX5_put 10 = .ok (.aload_n 0, 1) := by decide +kernel
theorem dX5_put_11 : decode cX5_put 11 = .ok (.iload_n 1, 1) := by decide +kernel
theorem dX5_put_12 : decode cX5_put 12 = .ok (.iload_n 2, 1) := by decide +kernel
theorem dX5_put_13 : decode cX5_put 13 = .ok (.iastore, 1) := by decide +kernel
theorem dX5_put_14 : decode cX5_put 14 = .ok (.return_, 1) := by decide +kernel
theorem dX5_copy_0 : decode cX5_copy 0 = .ok (.aload_n 0, 1) := by decide +kernel
theorem dX5_copy_1 : decode cX5_copy 1 = .ok (.iconst 0, 1) := by decide +kernel
theorem dX5_copy_2 : decode cX5_copy 2 = .ok (.aload_n 1, 1) := by decide +kernel
theorem dX5_copy_3 : decode cX5_copy 3 = .ok (.iconst 0, 1) := by decide +kernel
theorem dX5_copy_4 : decode cX5_copy 4 = .ok (.aload_n 0, 1) := by decide +kernel
theorem dX5_copy_5 : decode cX5_copy 5 = .ok (.arraylength, 1) := by decide +kernel
theorem dX5_copy_6 : decode cX5_copy 6 = .ok (.aload_n 1, 1) := by decide +kernel
theorem dX5_copy_7 : decode cX5_copy 7 = .ok (.arraylength, 1) := by decide +kernel
theorem dX5_copy_8 : decode cX5_copy 8 = .ok (.invokestatic 220, 3) := by decide +kernel
theorem dX5_copy_11 : decode cX5_copy 11 = .ok (.invokestatic 238, 3) := by decide +kernel
theorem dX5_copy_14 : decode cX5_copy 14 = .ok (.return_, 1) := by decide +kernel
theorem dX5_imagine_0 : decode cX5_imagine 0 = .ok (.aload_n 0, 1) := by decide +kernel
theorem dX5_imagine_1 : decode cX5_imagine 1 = .ok (.getfield 16, 3) := by decide +kernel
theorem dX5_imagine_4 : decode cX5_imagine 4 = .ok (.aload_n 0, 1) := by decide +kernel
theorem dX5_imagine_5 : decode cX5_imagine 5 = .ok (.getfield 10, 3) := by decide +kernel
theorem dX5_imagine_8 : decode cX5_imagine 8 = .ok (.invokevirtual 181, 3) := by decide +kernel
theorem dX5_imagine_11 : decode cX5_imagine 11 = .ok (.aload_n 0, 1) := by decide +kernel
theorem dX5_imagine_12 : decode cX5_imagine 12 = .ok (.getfield 16, 3) := by decide +kernel
theorem dX5_imagine_15 : decode cX5_imagine 15 = .ok (.iload_n 1, 1) := by decide +kernel
theorem dX5_imagine_16 : decode cX5_imagine 16 = .ok (.invokevirtual 199, 3) := by decide +kernel
theorem dX5_imagine_19 : decode cX5_imagine 19 = .ok (.return_, 1) := by decide +kernel
theorem dX5_hoursUntilRid_0 : decode cX5_hoursUntilRid 0 = .ok (.iconst 0, 1) := by decide +kernel
theorem dX5_hoursUntilRid_1 : decode cX5_hoursUntilRid 1 = .ok (.istore_n 2, 1) := by decide +kernel
theorem dX5_hoursUntilRid_2 : decode cX5_hoursUntilRid 2 = .ok (.iload_n 2, 1) := by decide +kernel
theorem dX5_hoursUntilRid_3 : decode cX5_hoursUntilRid 3 = .ok (.bipush 60, 2) := by decide +kernel
theorem dX5_hoursUntilRid_5 : decode cX5_hoursUntilRid 5 = .ok (.if_icmp .gt 33, 3) := by decide +kernel
theorem dX5_hoursUntilRid_8 : decode cX5_hoursUntilRid 8 = .ok (.aload_n 0, 1) := by decide +kernel
theorem dX5_hoursUntilRid_9 : decode cX5_hoursUntilRid 9 = .ok (.getfield 16, 3) := by decide +kernel
theorem dX5_hoursUntilRid_12 : decode cX5_hoursUntilRid 12 = .ok (.getfield 96, 3) := by decide +kernel
theorem dX5_hoursUntilRid_15 : decode cX5_hoursUntilRid 15 = .ok (.iload_n 1, 1) := by decide +kernel
theorem dX5_hoursUntilRid_16 : decode cX5_hoursUntilRid 16 = .ok (.invokevirtual 159, 3) := by decide +kernel
theorem dX5_hoursUntilRid_19 : decode cX5_hoursUntilRid 19 = .ok (.ifCond .ne 5, 3) := by decide +kernel
theorem dX5_hoursUntilRid_22 : decode cX5_hoursUntilRid 22 = .ok (.iload_n 2, 1) := by decide +kernel
theorem dX5_hoursUntilRid_23 : decode cX5_hoursUntilRid 23 = .ok (.ireturn, 1) := by decide +kernel
theorem dX5_hoursUntilRid_24 : decode cX5_hoursUntilRid 24 = .ok (.aload_n 0, 1) := by decide +kernel
theorem dX5_hoursUntilRid_25 : decode cX5_hoursUntilRid 25 = .ok (.getfield 16, 3) := by decide +kernel
theorem dX5_hoursUntilRid_28 : decode cX5_hoursUntilRid 28 = .ok (.invokevirtual 165, 3) := by decide +kernel
theorem dX5_hoursUntilRid_31 : decode cX5_hoursUntilRid 31 = .ok (.pop, 1) := by decide +kernel
theorem dX5_hoursUntilRid_32 : decode cX5_hoursUntilRid 32 = .ok (.iinc 2 1, 3) := by decide +kernel
theorem dX5_hoursUntilRid_35 : decode cX5_hoursUntilRid 35 = .ok (.goto (-33), 3) := by decide +kernel
theorem dX5_hoursUntilRid_38 : decode cX5_hoursUntilRid 38 = .ok (.bipush 61, 2) := by decide +kernel
theorem dX5_hoursUntilRid_40 : decode cX5_hoursUntilRid 40 = .ok (.ireturn, 1) := by decide +kernel
theorem dX5_holdersIfWritten_0 : decode cX5_holdersIfWritten 0 = .ok (.aload_n 0, 1) := by decide +kernel
theorem dX5_holdersIfWritten_1 : decode cX5_holdersIfWritten 1 = .ok (.getfield 16, 3) := by decide +kernel
theorem dX5_holdersIfWritten_4 : decode cX5_holdersIfWritten 4 = .ok (.aload_n 0, 1) := by decide +kernel
theorem dX5_holdersIfWritten_5 : decode cX5_holdersIfWritten 5 = .ok (.getfield 10, 3) := by decide +kernel
theorem dX5_holdersIfWritten_8 : decode cX5_holdersIfWritten 8 = .ok (.invokevirtual 181, 3) := by decide +kernel
theorem dX5_holdersIfWritten_11 : decode cX5_holdersIfWritten 11 = .ok (.aload_n 0, 1) := by decide +kernel
theorem dX5_holdersIfWritten_12 : decode cX5_holdersIfWritten 12 = .ok (.getfield 16, 3) := by decide +kernel
theorem dX5_holdersIfWritten_15 : decode cX5_holdersIfWritten 15 = .ok (.getfield 70, 3) := by decide +kernel
theorem dX5_holdersIfWritten_18 : decode cX5_holdersIfWritten 18 = .ok (.getfield 185, 3) := by decide +kernel
theorem dX5_holdersIfWritten_21 : decode cX5_holdersIfWritten 21 = .ok (.istore 5, 2) := by decide +kernel
theorem dX5_holdersIfWritten_23 : decode cX5_holdersIfWritten 23 = .ok (.aload_n 0, 1) := by decide +kernel
theorem dX5_holdersIfWritten_24 : decode cX5_holdersIfWritten 24 = .ok (.getfield 16, 3) := by decide +kernel
theorem dX5_holdersIfWritten_27 : decode cX5_holdersIfWritten 27 = .ok (.getfield 70, 3) := by decide +kernel
theorem dX5_holdersIfWritten_30 : decode cX5_holdersIfWritten 30 = .ok (.iload_n 1, 1) := by decide +kernel
theorem dX5_holdersIfWritten_31 : decode cX5_holdersIfWritten 31 = .ok (.iload_n 2, 1) := by decide +kernel
theorem dX5_holdersIfWritten_32 : decode cX5_holdersIfWritten 32 = .ok (.iload_n 3, 1) := by decide +kernel
theorem dX5_holdersIfWritten_33 : decode cX5_holdersIfWritten 33 = .ok (.invokevirtual 244, 3) := by decide +kernel
theorem dX5_holdersIfWritten_36 : decode cX5_holdersIfWritten 36 = .ok (.pop, 1) := by decide +kernel
theorem dX5_holdersIfWritten_37 : decode cX5_holdersIfWritten 37 = .ok (.aload_n 0, 1) := by decide +kernel
theorem dX5_holdersIfWritten_38 : decode cX5_holdersIfWritten 38 = .ok (.getfield 16, 3) := by decide +kernel
theorem dX5_holdersIfWritten_41 : decode cX5_holdersIfWritten 41 = .ok (.iconst 0, 1) := by decide +kernel
theorem dX5_holdersIfWritten_42 : decode cX5_holdersIfWritten 42 = .ok (.iload 5, 2) := by decide +kernel
theorem dX5_holdersIfWritten_44 : decode cX5_holdersIfWritten 44 = .ok (.invokevirtual 155, 3) := by decide +kernel
theorem dX5_holdersIfWritten_47 : decode cX5_holdersIfWritten 47 = .ok (.aload_n 0, 1) := by decide +kernel
theorem dX5_holdersIfWritten_48 : decode cX5_holdersIfWritten 48 = .ok (.getfield 16, 3) := by decide +kernel
theorem dX5_holdersIfWritten_51 : decode cX5_holdersIfWritten 51 = .ok (.iload 4, 2) := by decide +kernel
theorem dX5_holdersIfWritten_53 : decode cX5_holdersIfWritten 53 = .ok (.invokevirtual 199, 3) := by decide +kernel
theorem dX5_holdersIfWritten_56 : decode cX5_holdersIfWritten 56 = .ok (.aload_n 0, 1) := by decide +kernel
theorem dX5_holdersIfWritten_57 : decode cX5_holdersIfWritten 57 = .ok (.getfield 16, 3) := by decide +kernel
theorem dX5_holdersIfWritten_60 : decode cX5_holdersIfWritten 60 = .ok (.getfield 96, 3) := by decide +kernel
theorem dX5_holdersIfWritten_63 : decode cX5_holdersIfWritten 63 = .ok (.iload 5, 2) := by decide +kernel
theorem dX5_holdersIfWritten_65 : decode cX5_holdersIfWritten 65 = .ok (.invokevirtual 100, 3) := by decide +kernel
theorem dX5_holdersIfWritten_68 : decode cX5_holdersIfWritten 68 = .ok (.ireturn, 1) := by decide +kernel
theorem dX5_leadsToTold_0 : decode cX5_leadsToTold 0 = .ok (.aload_n 0, 1) := by decide +kernel
theorem dX5_leadsToTold_1 : decode cX5_leadsToTold 1 = .ok (.getfield 16, 3) := by decide +kernel
theorem dX5_leadsToTold_4 : decode cX5_leadsToTold 4 = .ok (.aload_n 0, 1) := by decide +kernel
theorem dX5_leadsToTold_5 : decode cX5_leadsToTold 5 = .ok (.getfield 10, 3) := by decide +kernel
theorem dX5_leadsToTold_8 : decode cX5_leadsToTold 8 = .ok (.invokevirtual 181, 3) := by decide +kernel
theorem dX5_leadsToTold_11 : decode cX5_leadsToTold 11 = .ok (.aload_n 0, 1) := by decide +kernel
theorem dX5_leadsToTold_12 : decode cX5_leadsToTold 12 = .ok (.getfield 16, 3) := by decide +kernel
theorem dX5_leadsToTold_15 : decode cX5_leadsToTold 15 = .ok (.iload_n 1, 1) := by decide +kernel
theorem dX5_leadsToTold_16 : decode cX5_leadsToTold 16 = .ok (.iload_n 2, 1) := by decide +kernel
theorem dX5_leadsToTold_17 : decode cX5_leadsToTold 17 = .ok (.invokevirtual 155, 3) := by decide +kernel
theorem dX5_leadsToTold_20 : decode cX5_leadsToTold 20 = .ok (.aload_n 0, 1) := by decide +kernel
theorem dX5_leadsToTold_21 : decode cX5_leadsToTold 21 = .ok (.getfield 16, 3) := by decide +kernel
theorem dX5_leadsToTold_24 : decode cX5_leadsToTold 24 = .ok (.iload_n 3, 1) := by decide +kernel
theorem dX5_leadsToTold_25 : decode cX5_leadsToTold 25 = .ok (.invokevirtual 199, 3) := by decide +kernel
theorem dX5_leadsToTold_28 : decode cX5_leadsToTold 28 = .ok (.aload_n 0, 1) := by decide +kernel
theorem dX5_leadsToTold_29 : decode cX5_leadsToTold 29 = .ok (.aload_n 0, 1) := by decide +kernel
theorem dX5_leadsToTold_30 : decode cX5_leadsToTold 30 = .ok (.getfield 16, 3) := by decide +kernel
theorem dX5_leadsToTold_33 : decode cX5_leadsToTold 33 = .ok (.getfield 96, 3) := by decide +kernel
theorem dX5_leadsToTold_36 : decode cX5_leadsToTold 36 = .ok (.aload_n 0, 1) := by decide +kernel
theorem dX5_leadsToTold_37 : decode cX5_leadsToTold 37 = .ok (.getfield 37, 3) := by decide +kernel
theorem dX5_leadsToTold_40 : decode cX5_leadsToTold 40 = .ok (.invokevirtual 225, 3) := by decide +kernel
theorem dX5_leadsToTold_43 : decode cX5_leadsToTold 43 = .ok (.bipush (-9), 2) := by decide +kernel
theorem dX5_leadsToTold_45 : decode cX5_leadsToTold 45 = .ok (.if_icmp .ne 7, 3) := by decide +kernel
theorem dX5_leadsToTold_48 : decode cX5_leadsToTold 48 = .ok (.iconst 1, 1) := by decide +kernel
theorem dX5_leadsToTold_49 : decode cX5_leadsToTold 49 = .ok (.goto 4, 3) := by decide +kernel
theorem dX5_leadsToTold_52 : decode cX5_leadsToTold 52 = .ok (.iconst 0, 1) := by decide +kernel
theorem dX5_leadsToTold_53 : decode cX5_leadsToTold 53 = .ok (.ireturn, 1) := by decide +kernel
theorem dX5_unlikeTold_0 : decode cX5_unlikeTold 0 = .ok (.iconst 0, 1) := by decide +kernel
theorem dX5_unlikeTold_1 : decode cX5_unlikeTold 1 = .ok (.istore_n 3, 1) := by decide +kernel
theorem dX5_unlikeTold_2 : decode cX5_unlikeTold 2 = .ok (.iload_n 3, 1) := by decide +kernel
theorem dX5_unlikeTold_3 : decode cX5_unlikeTold 3 = .ok (.iload_n 2, 1) := by decide +kernel
theorem dX5_unlikeTold_4 : decode cX5_unlikeTold 4 = .ok (.if_icmp .ge 33, 3) := by decide +kernel
theorem dX5_unlikeTold_7 : decode cX5_unlikeTold 7 = .ok (.aload_n 0, 1) := by decide +kernel
theorem dX5_unlikeTold_8 : decode cX5_unlikeTold 8 = .ok (.getfield 33, 3) := by decide +kernel
theorem dX5_unlikeTold_11 : decode cX5_unlikeTold 11 = .ok (.iload_n 3, 1) := by decide +kernel
theorem dX5_unlikeTold_12 : decode cX5_unlikeTold 12 = .ok (.invokestatic 83, 3) := by decide +kernel
theorem dX5_unlikeTold_15 : decode cX5_unlikeTold 15 = .ok (.aload_n 1, 1) := by decide +kernel
theorem dX5_unlikeTold_16 : decode cX5_unlikeTold 16 = .ok (.getfield 113, 3) := by decide +kernel
theorem dX5_unlikeTold_19 : decode cX5_unlikeTold 19 = .ok (.iload_n 3, 1) := by decide +kernel
theorem dX5_unlikeTold_20 : decode cX5_unlikeTold 20 = .ok (.invokestatic 83, 3) := by decide +kernel
theorem dX5_unlikeTold_23 : decode cX5_unlikeTold 23 = .ok (.invokestatic 217, 3) := by decide +kernel
theorem dX5_unlikeTold_26 : decode cX5_unlikeTold 26 = .ok (.if_icmp .eq 5, 3) := by decide +kernel
theorem dX5_unlikeTold_29 : decode cX5_unlikeTold 29 = .ok (.iload_n 3, 1) := by decide +kernel
theorem dX5_unlikeTold_30 : decode cX5_unlikeTold 30 = .ok (.ireturn, 1) := by decide +kernel
theorem dX5_unlikeTold_31 : decode cX5_unlikeTold 31 = .ok (.iinc 3 1, 3) := by decide +kernel
theorem dX5_unlikeTold_34 : decode cX5_unlikeTold 34 = .ok (.goto (-32), 3) := by decide +kernel
theorem dX5_unlikeTold_37 : decode cX5_unlikeTold 37 = .ok (.bipush (-9), 2) := by decide +kernel
theorem dX5_unlikeTold_39 : decode cX5_unlikeTold 39 = .ok (.ireturn, 1) := by decide +kernel
theorem dX5_inRow_0 : decode cX5_inRow 0 = .ok (.iload_n 0, 1) := by decide +kernel
theorem dX5_inRow_1 : decode cX5_inRow 1 = .ok (.bipush (-9), 2) := by decide +kernel
theorem dX5_inRow_3 : decode cX5_inRow 3 = .ok (.if_icmp .ne 8, 3) := by decide +kernel
theorem dX5_inRow_6 : decode cX5_inRow 6 = .ok (.bipush 9, 2) := by decide +kernel
theorem dX5_inRow_8 : decode cX5_inRow 8 = .ok (.goto 4, 3) := by decide +kernel
theorem dX5_inRow_11 : decode cX5_inRow 11 = .ok (.iload_n 0, 1) := by decide +kernel
theorem dX5_inRow_12 : decode cX5_inRow 12 = .ok (.ireturn, 1) := by decide +kernel
theorem dX5_obeyAll_0 : decode cX5_obeyAll 0 = .ok (.aload_n 0, 1) := by decide +kernel
theorem dX5_obeyAll_1 : decode cX5_obeyAll 1 = .ok (.getfield 16, 3) := by decide +kernel
theorem dX5_obeyAll_4 : decode cX5_obeyAll 4 = .ok (.aload_n 0, 1) := by decide +kernel
theorem dX5_obeyAll_5 : decode cX5_obeyAll 5 = .ok (.getfield 10, 3) := by decide +kernel
theorem dX5_obeyAll_8 : decode cX5_obeyAll 8 = .ok (.invokevirtual 181, 3) := by decide +kernel
theorem dX5_obeyAll_11 : decode cX5_obeyAll 11 = .ok (.iconst 0, 1) := by decide +kernel
theorem dX5_obeyAll_12 : decode cX5_obeyAll 12 = .ok (.istore_n 1, 1) := by decide +kernel
theorem dX5_obeyAll_13 : decode cX5_obeyAll 13 = .ok (.iconst 0, 1) := by decide +kernel
theorem dX5_obeyAll_14 : decode cX5_obeyAll 14 = .ok (.istore_n 2, 1) := by decide +kernel
theorem dX5_obeyAll_15 : decode cX5_obeyAll 15 = .ok (.iload_n 1, 1) := by decide +kernel
theorem dX5_obeyAll_16 : decode cX5_obeyAll 16 = .ok (.aload_n 0, 1) := by decide +kernel
theorem dX5_obeyAll_17 : decode cX5_obeyAll 17 = .ok (.getfield 29, 3) := by decide +kernel
theorem dX5_obeyAll_20 : decode cX5_obeyAll 20 = .ok (.getfield 60, 3) := by decide +kernel
theorem dX5_obeyAll_23 : decode cX5_obeyAll 23 = .ok (.if_icmp .ge 38, 3) := by decide +kernel
theorem dX5_obeyAll_26 : decode cX5_obeyAll 26 = .ok (.iload_n 2, 1) := by decide +kernel
theorem dX5_obeyAll_27 : decode cX5_obeyAll 27 = .ok (.bipush 96, 2) := by decide +kernel
theorem dX5_obeyAll_29 : decode cX5_obeyAll 29 = .ok (.if_icmp .ge 32, 3) := by decide +kernel
theorem dX5_obeyAll_32 : decode cX5_obeyAll 32 = .ok (.aload_n 0, 1) := by decide +kernel
theorem dX5_obeyAll_33 : decode cX5_obeyAll 33 = .ok (.iload_n 1, 1) := by decide +kernel
theorem dX5_obeyAll_34 : decode cX5_obeyAll 34 = .ok (.invokevirtual 246, 3) := by decide +kernel
theorem dX5_obeyAll_37 : decode cX5_obeyAll 37 = .ok (.ifCond .ne 9, 3) := by decide +kernel
theorem dX5_obeyAll_40 : decode cX5_obeyAll 40 = .ok (.sipush (-2000), 3) := by decide +kernel
theorem dX5_obeyAll_43 : decode cX5_obeyAll 43 = .ok (.iload_n 1, 1) := by decide +kernel
theorem dX5_obeyAll_44 : decode cX5_obeyAll 44 = .ok (.isub, 1) := by decide +kernel
theorem dX5_obeyAll_45 : decode cX5_obeyAll 45 = .ok (.ireturn, 1) := by decide +kernel
theorem dX5_obeyAll_46 : decode cX5_obeyAll 46 = .ok (.aload_n 0, 1) := by decide +kernel
theorem dX5_obeyAll_47 : decode cX5_obeyAll 47 = .ok (.getfield 29, 3) := by decide +kernel
theorem dX5_obeyAll_50 : decode cX5_obeyAll 50 = .ok (.iload_n 1, 1) := by decide +kernel
theorem dX5_obeyAll_51 : decode cX5_obeyAll 51 = .ok (.invokevirtual 249, 3) := by decide +kernel
theorem dX5_obeyAll_54 : decode cX5_obeyAll 54 = .ok (.istore_n 1, 1) := by decide +kernel
theorem dX5_obeyAll_55 : decode cX5_obeyAll 55 = .ok (.iinc 2 1, 3) := by decide +kernel
theorem dX5_obeyAll_58 : decode cX5_obeyAll 58 = .ok (.goto (-43), 3) := by decide +kernel
theorem dX5_obeyAll_61 : decode cX5_obeyAll 61 = .ok (.aload_n 0, 1) := by decide +kernel
theorem dX5_obeyAll_62 : decode cX5_obeyAll 62 = .ok (.getfield 10, 3) := by decide +kernel
theorem dX5_obeyAll_65 : decode cX5_obeyAll 65 = .ok (.aload_n 0, 1) := by decide +kernel
theorem dX5_obeyAll_66 : decode cX5_obeyAll 66 = .ok (.getfield 16, 3) := by decide +kernel
theorem dX5_obeyAll_69 : decode cX5_obeyAll 69 = .ok (.invokevirtual 181, 3) := by decide +kernel
theorem dX5_obeyAll_72 : decode cX5_obeyAll 72 = .ok (.iload_n 2, 1) := by decide +kernel
theorem dX5_obeyAll_73 : decode cX5_obeyAll 73 = .ok (.ireturn, 1) := by decide +kernel
theorem dX5_obey_0 : decode cX5_obey 0 = .ok (.aload_n 0, 1) := by decide +kernel
theorem dX5_obey_1 : decode cX5_obey 1 = .ok (.getfield 29, 3) := by decide +kernel
theorem dX5_obey_4 : decode cX5_obey 4 = .ok (.iload_n 1, 1) := by decide +kernel
theorem dX5_obey_5 : decode cX5_obey 5 = .ok (.invokevirtual 252, 3) := by decide +kernel
theorem dX5_obey_8 : decode cX5_obey 8 = .ok (.lookupswitch 178 #[(100, 44), (103, 153), (104, 114), (115, 75)], 44) := by decide +kernel
theorem dX5_obey_52 : decode cX5_obey 52 = .ok (.aload_n 0, 1) := by decide +kernel
theorem dX5_obey_53 : decode cX5_obey 53 = .ok (.getfield 16, 3) := by decide +kernel
theorem dX5_obey_56 : decode cX5_obey 56 = .ok (.getfield 138, 3) := by decide +kernel
theorem dX5_obey_59 : decode cX5_obey 59 = .ok (.aload_n 0, 1) := by decide +kernel
theorem dX5_obey_60 : decode cX5_obey 60 = .ok (.getfield 29, 3) := by decide +kernel
theorem dX5_obey_63 : decode cX5_obey 63 = .ok (.iload_n 1, 1) := by decide +kernel
theorem dX5_obey_64 : decode cX5_obey 64 = .ok (.iconst 1, 1) := by decide +kernel
theorem dX5_obey_65 : decode cX5_obey 65 = .ok (.iadd, 1) := by decide +kernel
theorem dX5_obey_66 : decode cX5_obey 66 = .ok (.invokevirtual 255, 3) := by decide +kernel
theorem dX5_obey_69 : decode cX5_obey 69 = .ok (.aload_n 0, 1) := by decide +kernel
theorem dX5_obey_70 : decode cX5_obey 70 = .ok (.getfield 29, 3) := by decide +kernel
theorem dX5_obey_73 : decode cX5_obey 73 = .ok (.iload_n 1, 1) := by decide +kernel
theorem dX5_obey_74 : decode cX5_obey 74 = .ok (.iconst 2, 1) := by decide +kernel
theorem dX5_obey_75 : decode cX5_obey 75 = .ok (.iadd, 1) := by decide +kernel
theorem dX5_obey_76 : decode cX5_obey 76 = .ok (.invokevirtual 255, 3) := by decide +kernel
theorem dX5_obey_79 : decode cX5_obey 79 = .ok (.invokevirtual 258, 3) := by decide +kernel
theorem dX5_obey_82 : decode cX5_obey 82 = .ok (.ireturn, 1) := by decide +kernel
theorem dX5_obey_83 : decode cX5_obey 83 = .ok (.aload_n 0, 1) := by decide +kernel
theorem dX5_obey_84 : decode cX5_obey 84 = .ok (.getfield 16, 3) := by decide +kernel
theorem dX5_obey_87 : decode cX5_obey 87 = .ok (.getfield 70, 3) := by decide +kernel
theorem dX5_obey_90 : decode cX5_obey 90 = .ok (.aload_n 0, 1) := by decide +kernel
theorem dX5_obey_91 : decode cX5_obey 91 = .ok (.getfield 29, 3) := by decide +kernel
theorem dX5_obey_94 : decode cX5_obey 94 = .ok (.iload_n 1, 1) := by decide +kernel
theorem dX5_obey_95 : decode cX5_obey 95 = .ok (.invokevirtual 261, 3) := by decide +kernel
theorem dX5_obey_98 : decode cX5_obey 98 = .ok (.aload_n 0, 1) := by decide +kernel
theorem dX5_obey_99 : decode cX5_obey 99 = .ok (.getfield 29, 3) := by decide +kernel
theorem dX5_obey_102 : decode cX5_obey 102 = .ok (.iload_n 1, 1) := by decide +kernel
theorem dX5_obey_103 : decode cX5_obey 103 = .ok (.iconst 2, 1) := by decide +kernel
theorem dX5_obey_104 : decode cX5_obey 104 = .ok (.iadd, 1) := by decide +kernel
theorem dX5_obey_105 : decode cX5_obey 105 = .ok (.invokevirtual 255, 3) := by decide +kernel
theorem dX5_obey_108 : decode cX5_obey 108 = .ok (.aload_n 0, 1) := by decide +kernel
theorem dX5_obey_109 : decode cX5_obey 109 = .ok (.getfield 29, 3) := by decide +kernel
theorem dX5_obey_112 : decode cX5_obey 112 = .ok (.iload_n 1, 1) := by decide +kernel
theorem dX5_obey_113 : decode cX5_obey 113 = .ok (.iconst 3, 1) := by decide +kernel
theorem dX5_obey_114 : decode cX5_obey 114 = .ok (.iadd, 1) := by decide +kernel
theorem dX5_obey_115 : decode cX5_obey 115 = .ok (.invokevirtual 255, 3) := by decide +kernel
theorem dX5_obey_118 : decode cX5_obey 118 = .ok (.invokevirtual 244, 3) := by decide +kernel
theorem dX5_obey_121 : decode cX5_obey 121 = .ok (.ireturn, 1) := by decide +kernel
theorem dX5_obey_122 : decode cX5_obey 122 = .ok (.aload_n 0, 1) := by decide +kernel
theorem dX5_obey_123 : decode cX5_obey 123 = .ok (.getfield 16, 3) := by decide +kernel
theorem dX5_obey_126 : decode cX5_obey 126 = .ok (.getfield 96, 3) := by decide +kernel
theorem dX5_obey_129 : decode cX5_obey 129 = .ok (.aload_n 0, 1) := by decide +kernel
theorem dX5_obey_130 : decode cX5_obey 130 = .ok (.getfield 29, 3) := by decide +kernel
theorem dX5_obey_133 : decode cX5_obey 133 = .ok (.iload_n 1, 1) := by decide +kernel
theorem dX5_obey_134 : decode cX5_obey 134 = .ok (.invokevirtual 261, 3) := by decide +kernel
theorem dX5_obey_137 : decode cX5_obey 137 = .ok (.aload_n 0, 1) := by decide +kernel
theorem dX5_obey_138 : decode cX5_obey 138 = .ok (.getfield 29, 3) := by decide +kernel
theorem dX5_obey_141 : decode cX5_obey 141 = .ok (.iload_n 1, 1) := by decide +kernel
theorem dX5_obey_142 : decode cX5_obey 142 = .ok (.iconst 2, 1) := by decide +kernel
theorem dX5_obey_143 : decode cX5_obey 143 = .ok (.iadd, 1) := by decide +kernel
theorem dX5_obey_144 : decode cX5_obey 144 = .ok (.invokevirtual 255, 3) := by decide +kernel
theorem dX5_obey_147 : decode cX5_obey 147 = .ok (.aload_n 0, 1) := by decide +kernel
theorem dX5_obey_148 : decode cX5_obey 148 = .ok (.getfield 29, 3) := by decide +kernel
theorem dX5_obey_151 : decode cX5_obey 151 = .ok (.iload_n 1, 1) := by decide +kernel
theorem dX5_obey_152 : decode cX5_obey 152 = .ok (.iconst 3, 1) := by decide +kernel
theorem dX5_obey_153 : decode cX5_obey 153 = .ok (.iadd, 1) := by decide +kernel
theorem dX5_obey_154 : decode cX5_obey 154 = .ok (.invokevirtual 255, 3) := by decide +kernel
theorem dX5_obey_157 : decode cX5_obey 157 = .ok (.invokevirtual 263, 3) := by decide +kernel
theorem dX5_obey_160 : decode cX5_obey 160 = .ok (.ireturn, 1) := by decide +kernel
theorem dX5_obey_161 : decode cX5_obey 161 = .ok (.aload_n 0, 1) := by decide +kernel
theorem dX5_obey_162 : decode cX5_obey 162 = .ok (.aload_n 0, 1) := by decide +kernel
theorem dX5_obey_163 : decode cX5_obey 163 = .ok (.getfield 29, 3) := by decide +kernel
theorem dX5_obey_166 : decode cX5_obey 166 = .ok (.iload_n 1, 1) := by decide +kernel
theorem dX5_obey_167 : decode cX5_obey 167 = .ok (.iconst 1, 1) := by decide +kernel
theorem dX5_obey_168 : decode cX5_obey 168 = .ok (.iadd, 1) := by decide +kernel
theorem dX5_obey_169 : decode cX5_obey 169 = .ok (.invokevirtual 255, 3) := by decide +kernel
theorem dX5_obey_172 : decode cX5_obey 172 = .ok (.aload_n 0, 1) := by decide +kernel
theorem dX5_obey_173 : decode cX5_obey 173 = .ok (.getfield 29, 3) := by decide +kernel
theorem dX5_obey_176 : decode cX5_obey 176 = .ok (.iload_n 1, 1) := by decide +kernel
theorem dX5_obey_177 : decode cX5_obey 177 = .ok (.iconst 2, 1) := by decide +kernel
theorem dX5_obey_178 : decode cX5_obey 178 = .ok (.iadd, 1) := by decide +kernel
theorem dX5_obey_179 : decode cX5_obey 179 = .ok (.invokevirtual 255, 3) := by decide +kernel
theorem dX5_obey_182 : decode cX5_obey 182 = .ok (.invokevirtual 264, 3) := by decide +kernel
theorem dX5_obey_185 : decode cX5_obey 185 = .ok (.ireturn, 1) := by decide +kernel
theorem dX5_obey_186 : decode cX5_obey 186 = .ok (.aload_n 0, 1) := by decide +kernel
theorem dX5_obey_187 : decode cX5_obey 187 = .ok (.aload_n 0, 1) := by decide +kernel
theorem dX5_obey_188 : decode cX5_obey 188 = .ok (.getfield 29, 3) := by decide +kernel
theorem dX5_obey_191 : decode cX5_obey 191 = .ok (.iload_n 1, 1) := by decide +kernel
theorem dX5_obey_192 : decode cX5_obey 192 = .ok (.iconst 1, 1) := by decide +kernel
theorem dX5_obey_193 : decode cX5_obey 193 = .ok (.iadd, 1) := by decide +kernel
theorem dX5_obey_194 : decode cX5_obey 194 = .ok (.invokevirtual 267, 3) := by decide +kernel
theorem dX5_obey_197 : decode cX5_obey 197 = .ok (.invokevirtual 270, 3) := by decide +kernel
theorem dX5_obey_200 : decode cX5_obey 200 = .ok (.ireturn, 1) := by decide +kernel
theorem dX5_giveInMind_0 : decode cX5_giveInMind 0 = .ok (.aload_n 0, 1) := by decide +kernel
theorem dX5_giveInMind_1 : decode cX5_giveInMind 1 = .ok (.getfield 16, 3) := by decide +kernel
theorem dX5_giveInMind_4 : decode cX5_giveInMind 4 = .ok (.getfield 96, 3) := by decide +kernel
theorem dX5_giveInMind_7 : decode cX5_giveInMind 7 = .ok (.iload_n 1, 1) := by decide +kernel
theorem dX5_giveInMind_8 : decode cX5_giveInMind 8 = .ok (.invokevirtual 105, 3) := by decide +kernel
theorem dX5_giveInMind_11 : decode cX5_giveInMind 11 = .ok (.ifCond .eq 17, 3) := by decide +kernel
theorem dX5_giveInMind_14 : decode cX5_giveInMind 14 = .ok (.aload_n 0, 1) := by decide +kernel
theorem dX5_giveInMind_15 : decode cX5_giveInMind 15 = .ok (.getfield 16, 3) := by decide +kernel
theorem dX5_giveInMind_18 : decode cX5_giveInMind 18 = .ok (.getfield 70, 3) := by decide +kernel
theorem dX5_giveInMind_21 : decode cX5_giveInMind 21 = .ok (.iload_n 2, 1) := by decide +kernel
theorem dX5_giveInMind_22 : decode cX5_giveInMind 22 = .ok (.invokevirtual 74, 3) := by decide +kernel
theorem dX5_giveInMind_25 : decode cX5_giveInMind 25 = .ok (.ifCond .ne 5, 3) := by decide +kernel
theorem dX5_giveInMind_28 : decode cX5_giveInMind 28 = .ok (.iconst 0, 1) := by decide +kernel
theorem dX5_giveInMind_29 : decode cX5_giveInMind 29 = .ok (.ireturn, 1) := by decide +kernel
theorem dX5_giveInMind_30 : decode cX5_giveInMind 30 = .ok (.aload_n 0, 1) := by decide +kernel
theorem dX5_giveInMind_31 : decode cX5_giveInMind 31 = .ok (.getfield 16, 3) := by decide +kernel
theorem dX5_giveInMind_34 : decode cX5_giveInMind 34 = .ok (.iload_n 1, 1) := by decide +kernel
theorem dX5_giveInMind_35 : decode cX5_giveInMind 35 = .ok (.iload_n 2, 1) := by decide +kernel
theorem dX5_giveInMind_36 : decode cX5_giveInMind 36 = .ok (.invokevirtual 155, 3) := by decide +kernel
theorem dX5_giveInMind_39 : decode cX5_giveInMind 39 = .ok (.iconst 1, 1) := by decide +kernel
theorem dX5_giveInMind_40 : decode cX5_giveInMind 40 = .ok (.ireturn, 1) := by decide +kernel
theorem dX5_setLoudInMind_0 : decode cX5_setLoudInMind 0 = .ok (.iload_n 1, 1) := by decide +kernel
theorem dX5_setLoudInMind_1 : decode cX5_setLoudInMind 1 = .ok (.iconst 1, 1) := by decide +kernel
theorem dX5_setLoudInMind_2 : decode cX5_setLoudInMind 2 = .ok (.bipush 20, 2) := by decide +kernel
theorem dX5_setLoudInMind_4 : decode cX5_setLoudInMind 4 = .ok (.invokestatic 44, 3) := by decide +kernel
theorem dX5_setLoudInMind_7 : decode cX5_setLoudInMind 7 = .ok (.ifCond .eq 5, 3) := by decide +kernel
theorem dX5_setLoudInMind_10 : decode cX5_setLoudInMind 10 = .ok (.iconst 0, 1) := by decide +kernel
theorem dX5_setLoudInMind_11 : decode cX5_setLoudInMind 11 = .ok (.ireturn, 1) := by decide +kernel
theorem dX5_setLoudInMind_12 : decode cX5_setLoudInMind 12 = .ok (.aload_n 0, 1) := by decide +kernel
theorem dX5_setLoudInMind_13 : decode cX5_setLoudInMind 13 = .ok (.getfield 16, 3) := by decide +kernel
theorem dX5_setLoudInMind_16 : decode cX5_setLoudInMind 16 = .ok (.iload_n 1, 1) := by decide +kernel
theorem dX5_setLoudInMind_17 : decode cX5_setLoudInMind 17 = .ok (.putfield 125, 3) := by decide +kernel
theorem dX5_setLoudInMind_20 : decode cX5_setLoudInMind 20 = .ok (.iconst 1, 1) := by decide +kernel
theorem dX5_setLoudInMind_21 : decode cX5_setLoudInMind 21 = .ok (.ireturn, 1) := by decide +kernel
theorem dJ0_length_8abf5_0 : decode cJ0_length_8abf5 0 = .ok (.aload_n 0, 1) := by decide +kernel
theorem dJ0_length_8abf5_1 : decode cJ0_length_8abf5 1 = .ok (.getfield 9, 3) := by decide +kernel
theorem dJ0_length_8abf5_4 : decode cJ0_length_8abf5 4 = .ok (.arraylength, 1) := by decide +kernel
theorem dJ0_length_8abf5_5 : decode cJ0_length_8abf5 5 = .ok (.aload_n 0, 1) := by decide +kernel
theorem dJ0_length_8abf5_6 : decode cJ0_length_8abf5 6 = .ok (.invokevirtual 335, 3) := by decide +kernel
theorem dJ0_length_8abf5_9 : decode cJ0_length_8abf5 9 = .ok (.ishr, 1) := by decide +kernel
theorem dJ0_length_8abf5_10 : decode cJ0_length_8abf5 10 = .ok (.ireturn, 1) := by decide +kernel
theorem dJ0_indexOf_0f7a4_0 : decode cJ0_indexOf_0f7a4 0 = .ok (.aload_n 0, 1) := by decide +kernel
theorem dJ0_indexOf_0f7a4_1 : decode cJ0_indexOf_0f7a4 1 = .ok (.iload_n 1, 1) := by decide +kernel
theorem dJ0_indexOf_0f7a4_2 : decode cJ0_indexOf_0f7a4 2 = .ok (.iconst 0, 1) := by decide +kernel
theorem dJ0_indexOf_0f7a4_3 : decode cJ0_indexOf_0f7a4 3 = .ok (.invokevirtual 633, 3) := by decide +kernel
theorem dJ0_indexOf_0f7a4_6 : decode cJ0_indexOf_0f7a4 6 = .ok (.ireturn, 1) := by decide +kernel
theorem dJ0_indexOf_7cf53_0 : decode cJ0_indexOf_7cf53 0 = .ok (.aload_n 0, 1) := by decide +kernel
theorem dJ0_indexOf_7cf53_1 : decode cJ0_indexOf_7cf53 1 = .ok (.invokevirtual 492, 3) := by decide +kernel
theorem dJ0_indexOf_7cf53_4 : decode cJ0_indexOf_7cf53 4 = .ok (.ifCond .eq 19, 3) := by decide +kernel
theorem dJ0_indexOf_7cf53_7 : decode cJ0_indexOf_7cf53 7 = .ok (.aload_n 0, 1) := by decide +kernel
theorem dJ0_indexOf_7cf53_8 : decode cJ0_indexOf_7cf53 8 = .ok (.getfield 9, 3) := by decide +kernel
theorem dJ0_indexOf_7cf53_11 : decode cJ0_indexOf_7cf53 11 = .ok (.iload_n 1, 1) := by decide +kernel
theorem dJ0_indexOf_7cf53_12 : decode cJ0_indexOf_7cf53 12 = .ok (.iload_n 2, 1) := by decide +kernel
theorem dJ0_indexOf_7cf53_13 : decode cJ0_indexOf_7cf53 13 = .ok (.aload_n 0, 1) := by decide +kernel
theorem dJ0_indexOf_7cf53_14 : decode cJ0_indexOf_7cf53 14 = .ok (.invokevirtual 505, 3) := by decide +kernel
theorem dJ0_indexOf_7cf53_17 : decode cJ0_indexOf_7cf53 17 = .ok (.invokestatic 637, 3) := by decide +kernel
theorem dJ0_indexOf_7cf53_20 : decode cJ0_indexOf_7cf53 20 = .ok (.goto 16, 3) := by decide +kernel
theorem dJ0_indexOf_7cf53_23 : decode cJ0_indexOf_7cf53 23 = .ok (.aload_n 0, 1) := by decide +kernel
theorem dJ0_indexOf_7cf53_24 : decode cJ0_indexOf_7cf53 24 = .ok (.getfield 9, 3) := by decide +kernel
theorem dJ0_indexOf_7cf53_27 : decode cJ0_indexOf_7cf53 27 = .ok (.iload_n 1, 1) := by decide +kernel
theorem dJ0_indexOf_7cf53_28 : decode cJ0_indexOf_7cf53 28 = .ok (.iload_n 2, 1) := by decide +kernel
theorem dJ0_indexOf_7cf53_29 : decode cJ0_indexOf_7cf53 29 = .ok (.aload_n 0, 1) := by decide +kernel
theorem dJ0_indexOf_7cf53_30 : decode cJ0_indexOf_7cf53 30 = .ok (.invokevirtual 505, 3) := by decide +kernel
theorem dJ0_indexOf_7cf53_33 : decode cJ0_indexOf_7cf53 33 = .ok (.invokestatic 640, 3) := by decide +kernel
theorem dJ0_indexOf_7cf53_36 : decode cJ0_indexOf_7cf53 36 = .ok (.ireturn, 1) := by decide +kernel
theorem dJ0_coder_7d493_0 : decode cJ0_coder_7d493 0 = .ok (.getstatic 38, 3) := by decide +kernel
theorem dJ0_coder_7d493_3 : decode cJ0_coder_7d493 3 = .ok (.ifCond .eq 10, 3) := by decide +kernel
theorem dJ0_coder_7d493_6 : decode cJ0_coder_7d493 6 = .ok (.aload_n 0, 1) := by decide +kernel
theorem dJ0_coder_7d493_7 : decode cJ0_coder_7d493 7 = .ok (.getfield 15, 3) := by decide +kernel
theorem dJ0_coder_7d493_10 : decode cJ0_coder_7d493 10 = .ok (.goto 4, 3) := by decide +kernel
theorem dJ0_coder_7d493_13 : decode cJ0_coder_7d493 13 = .ok (.iconst 1, 1) := by decide +kernel
theorem dJ0_coder_7d493_14 : decode cJ0_coder_7d493 14 = .ok (.ireturn, 1) := by decide +kernel
theorem dJ0_isLatin1_aae02_0 : decode cJ0_isLatin1_aae02 0 = .ok (.getstatic 38, 3) := by decide +kernel
theorem dJ0_isLatin1_aae02_3 : decode cJ0_isLatin1_aae02 3 = .ok (.ifCond .eq 14, 3) := by decide +kernel
theorem dJ0_isLatin1_aae02_6 : decode cJ0_isLatin1_aae02 6 = .ok (.aload_n 0, 1) := by decide +kernel
theorem dJ0_isLatin1_aae02_7 : decode cJ0_isLatin1_aae02 7 = .ok (.getfield 15, 3) := by decide +kernel
theorem dJ0_isLatin1_aae02_10 : decode cJ0_isLatin1_aae02 10 = .ok (.ifCond .ne 7, 3) := by decide +kernel
theorem dJ0_isLatin1_aae02_13 : decode cJ0_isLatin1_aae02 13 = .ok (.iconst 1, 1) := by decide +kernel
theorem dJ0_isLatin1_aae02_14 : decode cJ0_isLatin1_aae02 14 = .ok (.goto 4, 3) := by decide +kernel
theorem dJ0_isLatin1_aae02_17 : decode cJ0_isLatin1_aae02 17 = .ok (.iconst 0, 1) := by decide +kernel
theorem dJ0_isLatin1_aae02_18 : decode cJ0_isLatin1_aae02 18 = .ok (.ireturn, 1) := by decide +kernel
theorem dJ0_checkBoundsBeginEnd_23922_0 : decode cJ0_checkBoundsBeginEnd_23922 0 = .ok (.iload_n 0, 1) := by decide +kernel
theorem dJ0_checkBoundsBeginEnd_23922_1 : decode cJ0_checkBoundsBeginEnd_23922 1 = .ok (.iload_n 1, 1) := by decide +kernel
theorem dJ0_checkBoundsBeginEnd_23922_2 : decode cJ0_checkBoundsBeginEnd_23922 2 = .ok (.iload_n 2, 1) := by decide +kernel
theorem dJ0_checkBoundsBeginEnd_23922_3 : decode cJ0_checkBoundsBeginEnd_23922 3 = .ok (.getstatic 1053, 3) := by decide +kernel
theorem dJ0_checkBoundsBeginEnd_23922_6 : decode cJ0_checkBoundsBeginEnd_23922 6 = .ok (.invokestatic 1062, 3) := by decide +kernel
theorem dJ0_checkBoundsBeginEnd_23922_9 : decode cJ0_checkBoundsBeginEnd_23922 9 = .ok (.pop, 1) := by decide +kernel
theorem dJ0_checkBoundsBeginEnd_23922_10 : decode cJ0_checkBoundsBeginEnd_23922 10 = .ok (.return_, 1) := by decide +kernel
theorem dJ1_canEncode_9a6ad_0 : decode cJ1_canEncode_9a6ad 0 = .ok (.iload_n 0, 1) := by decide +kernel
theorem dJ1_canEncode_9a6ad_1 : decode cJ1_canEncode_9a6ad 1 = .ok (.ifCond .lt 14, 3) := by decide +kernel
theorem dJ1_canEncode_9a6ad_4 : decode cJ1_canEncode_9a6ad 4 = .ok (.iload_n 0, 1) := by decide +kernel
theorem dJ1_canEncode_9a6ad_5 : decode cJ1_canEncode_9a6ad 5 = .ok (.sipush 255, 3) := by decide +kernel
theorem dJ1_canEncode_9a6ad_8 : decode cJ1_canEncode_9a6ad 8 = .ok (.if_icmp .gt 7, 3) := by decide +kernel
theorem dJ1_canEncode_9a6ad_11 : decode cJ1_canEncode_9a6ad 11 = .ok (.iconst 1, 1) := by decide +kernel
theorem dJ1_canEncode_9a6ad_12 : decode cJ1_canEncode_9a6ad 12 = .ok (.goto 4, 3) := by decide +kernel
theorem dJ1_canEncode_9a6ad_15 : decode cJ1_canEncode_9a6ad 15 = .ok (.iconst 0, 1) := by decide +kernel
theorem dJ1_canEncode_9a6ad_16 : decode cJ1_canEncode_9a6ad 16 = .ok (.ireturn, 1) := by decide +kernel
theorem dJ1_indexOf_4cfef_0 : decode cJ1_indexOf_4cfef 0 = .ok (.iload_n 1, 1) := by decide +kernel
theorem dJ1_indexOf_4cfef_1 : decode cJ1_indexOf_4cfef 1 = .ok (.invokestatic 88, 3) := by decide +kernel
theorem dJ1_indexOf_4cfef_4 : decode cJ1_indexOf_4cfef 4 = .ok (.ifCond .ne 5, 3) := by decide +kernel
theorem dJ1_indexOf_4cfef_7 : decode cJ1_indexOf_4cfef 7 = .ok (.iconst (-1), 1) := by decide +kernel
theorem dJ1_indexOf_4cfef_8 : decode cJ1_indexOf_4cfef 8 = .ok (.ireturn, 1) := by decide +kernel
theorem dJ1_indexOf_4cfef_9 : decode cJ1_indexOf_4cfef 9 = .ok (.iload_n 2, 1) := by decide +kernel
theorem dJ1_indexOf_4cfef_10 : decode cJ1_indexOf_4cfef 10 = .ok (.iconst 0, 1) := by decide +kernel
theorem dJ1_indexOf_4cfef_11 : decode cJ1_indexOf_4cfef 11 = .ok (.invokestatic 92, 3) := by decide +kernel
theorem dJ1_indexOf_4cfef_14 : decode cJ1_indexOf_4cfef 14 = .ok (.istore_n 2, 1) := by decide +kernel
theorem dJ1_indexOf_4cfef_15 : decode cJ1_indexOf_4cfef 15 = .ok (.iload_n 3, 1) := by decide +kernel
theorem dJ1_indexOf_4cfef_16 : decode cJ1_indexOf_4cfef 16 = .ok (.aload_n 0, 1) := by decide +kernel
theorem dJ1_indexOf_4cfef_17 : decode cJ1_indexOf_4cfef 17 = .ok (.arraylength, 1) := by decide +kernel
theorem dJ1_indexOf_4cfef_18 : decode cJ1_indexOf_4cfef 18 = .ok (.invokestatic 38, 3) := by decide +kernel
theorem dJ1_indexOf_4cfef_21 : decode cJ1_indexOf_4cfef 21 = .ok (.istore_n 3, 1) := by decide +kernel
theorem dJ1_indexOf_4cfef_22 : decode cJ1_indexOf_4cfef 22 = .ok (.iload_n 2, 1) := by decide +kernel
theorem dJ1_indexOf_4cfef_23 : decode cJ1_indexOf_4cfef 23 = .ok (.iload_n 3, 1) := by decide +kernel
theorem dJ1_indexOf_4cfef_24 : decode cJ1_indexOf_4cfef 24 = .ok (.if_icmp .lt 5, 3) := by decide +kernel
theorem dJ1_indexOf_4cfef_27 : decode cJ1_indexOf_4cfef 27 = .ok (.iconst (-1), 1) := by decide +kernel
theorem dJ1_indexOf_4cfef_28 : decode cJ1_indexOf_4cfef 28 = .ok (.ireturn, 1) := by decide +kernel
theorem dJ1_indexOf_4cfef_29 : decode cJ1_indexOf_4cfef 29 = .ok (.aload_n 0, 1) := by decide +kernel
theorem dJ1_indexOf_4cfef_30 : decode cJ1_indexOf_4cfef 30 = .ok (.iload_n 1, 1) := by decide +kernel
theorem dJ1_indexOf_4cfef_31 : decode cJ1_indexOf_4cfef 31 = .ok (.iload_n 2, 1) := by decide +kernel
theorem dJ1_indexOf_4cfef_32 : decode cJ1_indexOf_4cfef 32 = .ok (.iload_n 3, 1) := by decide +kernel
theorem dJ1_indexOf_4cfef_33 : decode cJ1_indexOf_4cfef 33 = .ok (.invokestatic 95, 3) := by decide +kernel
theorem dJ1_indexOf_4cfef_36 : decode cJ1_indexOf_4cfef 36 = .ok (.ireturn, 1) := by decide +kernel
theorem dJ1_indexOfChar_4cfef_0 : decode cJ1_indexOfChar_4cfef 0 = .ok (.iload_n 1, 1) := by decide +kernel
theorem dJ1_indexOfChar_4cfef_1 : decode cJ1_indexOfChar_4cfef 1 = .ok (.i2b, 1) := by decide +kernel
theorem dJ1_indexOfChar_4cfef_2 : decode cJ1_indexOfChar_4cfef 2 = .ok (.istore 4, 2) := by decide +kernel
theorem dJ1_indexOfChar_4cfef_4 : decode cJ1_indexOfChar_4cfef 4 = .ok (.iload_n 2, 1) := by decide +kernel
theorem dJ1_indexOfChar_4cfef_5 : decode cJ1_indexOfChar_4cfef 5 = .ok (.istore 5, 2) := by decide +kernel
theorem dJ1_indexOfChar_4cfef_7 : decode cJ1_indexOfChar_4cfef 7 = .ok (.iload 5, 2) := by decide +kernel
theorem dJ1_indexOfChar_4cfef_9 : decode cJ1_indexOfChar_4cfef 9 = .ok (.iload_n 3, 1) := by decide +kernel
theorem dJ1_indexOfChar_4cfef_10 : decode cJ1_indexOfChar_4cfef 10 = .ok (.if_icmp .ge 21, 3) := by decide +kernel
theorem dJ1_indexOfChar_4cfef_13 : decode cJ1_indexOfChar_4cfef 13 = .ok (.aload_n 0, 1) := by decide +kernel
theorem dJ1_indexOfChar_4cfef_14 : decode cJ1_indexOfChar_4cfef 14 = .ok (.iload 5, 2) := by decide +kernel
theorem dJ1_indexOfChar_4cfef_16 : decode cJ1_indexOfChar_4cfef 16 = .ok (.baload, 1) := by decide +kernel
theorem dJ1_indexOfChar_4cfef_17 : decode cJ1_indexOfChar_4cfef 17 = .ok (.iload 4, 2) := by decide +kernel
theorem dJ1_indexOfChar_4cfef_19 : decode cJ1_indexOfChar_4cfef 19 = .ok (.if_icmp .ne 6, 3) := by decide +kernel
theorem dJ1_indexOfChar_4cfef_22 : decode cJ1_indexOfChar_4cfef 22 = .ok (.iload 5, 2) := by decide +kernel
theorem dJ1_indexOfChar_4cfef_24 : decode cJ1_indexOfChar_4cfef 24 = .ok (.ireturn, 1) := by decide +kernel
theorem dJ1_indexOfChar_4cfef_25 : decode cJ1_indexOfChar_4cfef 25 = .ok (.iinc 5 1, 3) := by decide +kernel
theorem dJ1_indexOfChar_4cfef_28 : decode cJ1_indexOfChar_4cfef 28 = .ok (.goto (-21), 3) := by decide +kernel
theorem dJ1_indexOfChar_4cfef_31 : decode cJ1_indexOfChar_4cfef 31 = .ok (.iconst (-1), 1) := by decide +kernel
theorem dJ1_indexOfChar_4cfef_32 : decode cJ1_indexOfChar_4cfef 32 = .ok (.ireturn, 1) := by decide +kernel
