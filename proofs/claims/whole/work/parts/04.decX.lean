theorem dX0_init_0 : decode cX0_init 0 = .ok (.aload_n 0, 1) := by decide +kernel
theorem dX0_init_1 : decode cX0_init 1 = .ok (.invokespecial 3, 3) := by decide +kernel
theorem dX0_init_4 : decode cX0_init 4 = .ok (.aload_n 0, 1) := by decide +kernel
theorem dX0_init_5 : decode cX0_init 5 = .ok (.bipush 6, 2) := by decide +kernel
theorem dX0_init_7 : decode cX0_init 7 = .ok (.newarray .int, 2) := by decide +kernel
theorem dX0_init_9 : decode cX0_init 9 = .ok (.putfield 9, 3) := by decide +kernel
theorem dX0_init_12 : decode cX0_init 12 = .ok (.aload_n 0, 1) := by decide +kernel
theorem dX0_init_13 : decode cX0_init 13 = .ok (.bipush 6, 2) := by decide +kernel
theorem dX0_init_15 : decode cX0_init 15 = .ok (.newarray .int, 2) := by decide +kernel
theorem dX0_init_17 : decode cX0_init 17 = .ok (.putfield 15, 3) := by decide +kernel
theorem dX0_init_20 : decode cX0_init 20 = .ok (.aload_n 0, 1) := by decide +kernel
theorem dX0_init_21 : decode cX0_init 21 = .ok (.bipush 6, 2) := by decide +kernel
theorem dX0_init_23 : decode cX0_init 23 = .ok (.newarray .int, 2) := by decide +kernel
theorem dX0_init_25 : decode cX0_init 25 = .ok (.putfield 18, 3) := by decide +kernel
theorem dX0_init_28 : decode cX0_init 28 = .ok (.aload_n 0, 1) := by decide +kernel
theorem dX0_init_29 : decode cX0_init 29 = .ok (.bipush 6, 2) := by decide +kernel
theorem dX0_init_31 : decode cX0_init 31 = .ok (.newarray .int, 2) := by decide +kernel
theorem dX0_init_33 : decode cX0_init 33 = .ok (.putfield 21, 3) := by decide +kernel
theorem dX0_init_36 : decode cX0_init 36 = .ok (.aload_n 0, 1) := by decide +kernel
theorem dX0_init_37 : decode cX0_init 37 = .ok (.bipush 6, 2) := by decide +kernel
theorem dX0_init_39 : decode cX0_init 39 = .ok (.newarray .int, 2) := by decide +kernel
theorem dX0_init_41 : decode cX0_init 41 = .ok (.putfield 24, 3) := by decide +kernel
theorem dX0_init_44 : decode cX0_init 44 = .ok (.aload_n 0, 1) := by decide +kernel
theorem dX0_init_45 : decode cX0_init 45 = .ok (.sipush 255, 3) := by decide +kernel
theorem dX0_init_48 : decode cX0_init 48 = .ok (.putfield 27, 3) := by decide +kernel
theorem dX0_init_51 : decode cX0_init 51 = .ok (.aload_n 0, 1) := by decide +kernel
theorem dX0_init_52 : decode cX0_init 52 = .ok (.iconst 0, 1) := by decide +kernel
theorem dX0_init_53 : decode cX0_init 53 = .ok (.putfield 31, 3) := by decide +kernel
theorem dX0_init_56 : decode cX0_init 56 = .ok (.aload_n 0, 1) := by decide +kernel
theorem dX0_init_57 : decode cX0_init 57 = .ok (.iconst 0, 1) := by decide +kernel
theorem dX0_init_58 : decode cX0_init 58 = .ok (.putfield 34, 3) := by decide +kernel
theorem dX0_init_61 : decode cX0_init 61 = .ok (.aload_n 0, 1) := by decide +kernel
theorem dX0_init_62 : decode cX0_init 62 = .ok (.iconst 0, 1) := by decide +kernel
theorem dX0_init_63 : decode cX0_init 63 = .ok (.putfield 37, 3) := by decide +kernel
theorem dX0_init_66 : decode cX0_init 66 = .ok (.aload_n 0, 1) := by decide +kernel
theorem dX0_init_67 : decode cX0_init 67 = .ok (.aload_n 1, 1) := by decide +kernel
theorem dX0_init_68 : decode cX0_init 68 = .ok (.putfield 40, 3) := by decide +kernel
theorem dX0_init_71 : decode cX0_init 71 = .ok (.return_, 1) := by decide +kernel
theorem dX0_takes_0 : decode cX0_takes 0 = .ok (.aload_n 1, 1) := by decide +kernel
theorem dX0_takes_1 : decode cX0_takes 1 = .ok (.ifnonnull 4, 3) := by decide +kernel
theorem dX0_takes_4 : decode cX0_takes 4 = .ok (.return_, 1) := by decide +kernel
theorem dX0_takes_5 : decode cX0_takes 5 = .ok (.iconst 0, 1) := by decide +kernel
theorem dX0_takes_6 : decode cX0_takes 6 = .ok (.istore_n 2, 1) := by decide +kernel
theorem dX0_takes_7 : decode cX0_takes 7 = .ok (.iload_n 2, 1) := by decide +kernel
theorem dX0_takes_8 : decode cX0_takes 8 = .ok (.bipush 6, 2) := by decide +kernel
theorem dX0_takes_10 : decode cX0_takes 10 = .ok (.if_icmp .ge 69, 3) := by decide +kernel
theorem dX0_takes_13 : decode cX0_takes 13 = .ok (.aload_n 0, 1) := by decide +kernel
theorem dX0_takes_14 : decode cX0_takes 14 = .ok (.getfield 9, 3) := by decide +kernel
theorem dX0_takes_17 : decode cX0_takes 17 = .ok (.iload_n 2, 1) := by decide +kernel
theorem dX0_takes_18 : decode cX0_takes 18 = .ok (.aload_n 1, 1) := by decide +kernel
theorem dX0_takes_19 : decode cX0_takes 19 = .ok (.getfield 9, 3) := by decide +kernel
theorem dX0_takes_22 : decode cX0_takes 22 = .ok (.iload_n 2, 1) := by decide +kernel
theorem dX0_takes_23 : decode cX0_takes 23 = .ok (.iaload, 1) := by decide +kernel
theorem dX0_takes_24 : decode cX0_takes 24 = .ok (.iastore, 1) := by decide +kernel
theorem dX0_takes_25 : decode cX0_takes 25 = .ok (.aload_n 0, 1) := by decide +kernel
theorem dX0_takes_26 : decode cX0_takes 26 = .ok (.getfield 15, 3) := by decide +kernel
theorem dX0_takes_29 : decode cX0_takes 29 = .ok (.iload_n 2, 1) := by decide +kernel
theorem dX0_takes_30 : decode cX0_takes 30 = .ok (.aload_n 1, 1) := by decide +kernel
theorem dX0_takes_31 : decode cX0_takes 31 = .ok (.getfield 15, 3) := by decide +kernel
theorem dX0_takes_34 : decode cX0_takes 34 = .ok (.iload_n 2, 1) := by decide +kernel
theorem dX0_takes_35 : decode cX0_takes 35 = .ok (.iaload, 1) := by decide +kernel
theorem dX0_takes_36 : decode cX0_takes 36 = .ok (.iastore, 1) := by decide +kernel
theorem dX0_takes_37 : decode cX0_takes 37 = .ok (.aload_n 0, 1) := by decide +kernel
theorem dX0_takes_38 : decode cX0_takes 38 = .ok (.getfield 18, 3) := by decide +kernel
theorem dX0_takes_41 : decode cX0_takes 41 = .ok (.iload_n 2, 1) := by decide +kernel
theorem dX0_takes_42 : decode cX0_takes 42 = .ok (.aload_n 1, 1) := by decide +kernel
theorem dX0_takes_43 : decode cX0_takes 43 = .ok (.getfield 18, 3) := by decide +kernel
theorem dX0_takes_46 : decode cX0_takes 46 = .ok (.iload_n 2, 1) := by decide +kernel
theorem dX0_takes_47 : decode cX0_takes 47 = .ok (.iaload, 1) := by decide +kernel
theorem dX0_takes_48 : decode cX0_takes 48 = .ok (.iastore, 1) := by decide +kernel
theorem dX0_takes_49 : decode cX0_takes 49 = .ok (.aload_n 0, 1) := by decide +kernel
theorem dX0_takes_50 : decode cX0_takes 50 = .ok (.getfield 21, 3) := by decide +kernel
theorem dX0_takes_53 : decode cX0_takes 53 = .ok (.iload_n 2, 1) := by decide +kernel
theorem dX0_takes_54 : decode cX0_takes 54 = .ok (.aload_n 1, 1) := by decide +kernel
theorem dX0_takes_55 : decode cX0_takes 55 = .ok (.getfield 21, 3) := by decide +kernel
theorem dX0_takes_58 : decode cX0_takes 58 = .ok (.iload_n 2, 1) := by decide +kernel
theorem dX0_takes_59 : decode cX0_takes 59 = .ok (.iaload, 1) := by decide +kernel
theorem dX0_takes_60 : decode cX0_takes 60 = .ok (.iastore, 1) := by decide +kernel
theorem dX0_takes_61 : decode cX0_takes 61 = .ok (.aload_n 0, 1) := by decide +kernel
theorem dX0_takes_62 : decode cX0_takes 62 = .ok (.getfield 24, 3) := by decide +kernel
theorem dX0_takes_65 : decode cX0_takes 65 = .ok (.iload_n 2, 1) := by decide +kernel
theorem dX0_takes_66 : decode cX0_takes 66 = .ok (.aload_n 1, 1) := by decide +kernel
theorem dX0_takes_67 : decode cX0_takes 67 = .ok (.getfield 24, 3) := by decide +kernel
theorem dX0_takes_70 : decode cX0_takes 70 = .ok (.iload_n 2, 1) := by decide +kernel
theorem dX0_takes_71 : decode cX0_takes 71 = .ok (.iaload, 1) := by decide +kernel
theorem dX0_takes_72 : decode cX0_takes 72 = .ok (.iastore, 1) := by decide +kernel
theorem dX0_takes_73 : decode cX0_takes 73 = .ok (.iinc 2 1, 3) := by decide +kernel
theorem dX0_takes_76 : decode cX0_takes 76 = .ok (.goto (-69), 3) := by decide +kernel
theorem dX0_takes_79 : decode cX0_takes 79 = .ok (.aload_n 0, 1) := by decide +kernel
theorem dX0_takes_80 : decode cX0_takes 80 = .ok (.aload_n 1, 1) := by decide +kernel
theorem dX0_takes_81 : decode cX0_takes 81 = .ok (.getfield 27, 3) := by decide +kernel
theorem dX0_takes_84 : decode cX0_takes 84 = .ok (.putfield 27, 3) := by decide +kernel
theorem dX0_takes_87 : decode cX0_takes 87 = .ok (.aload_n 0, 1) := by decide +kernel
theorem dX0_takes_88 : decode cX0_takes 88 = .ok (.aload_n 1, 1) := by decide +kernel
theorem dX0_takes_89 : decode cX0_takes 89 = .ok (.getfield 31, 3) := by decide +kernel
theorem dX0_takes_92 : decode cX0_takes 92 = .ok (.putfield 31, 3) := by decide +kernel
theorem dX0_takes_95 : decode cX0_takes 95 = .ok (.aload_n 0, 1) := by decide +kernel
theorem dX0_takes_96 : decode cX0_takes 96 = .ok (.aload_n 1, 1) := by decide +kernel
theorem dX0_takes_97 : decode cX0_takes 97 = .ok (.getfield 34, 3) := by decide +kernel
theorem dX0_takes_100 : decode cX0_takes 100 = .ok (.putfield 34, 3) := by decide +kernel
theorem dX0_takes_103 : decode cX0_takes 103 = .ok (.aload_n 0, 1) := by decide +kernel
theorem dX0_takes_104 : decode cX0_takes 104 = .ok (.aload_n 1, 1) := by decide +kernel
theorem dX0_takes_105 : decode cX0_takes 105 = .ok (.getfield 37, 3) := by decide +kernel
theorem dX0_takes_108 : decode cX0_takes 108 = .ok (.putfield 37, 3) := by decide +kernel
theorem dX0_takes_111 : decode cX0_takes 111 = .ok (.return_, 1) := by decide +kernel
theorem dX0_comes_0 : decode cX0_comes 0 = .ok (.iload_n 1, 1) := by decide +kernel
theorem dX0_comes_1 : decode cX0_comes 1 = .ok (.iconst 0, 1) := by decide +kernel
theorem dX0_comes_2 : decode cX0_comes 2 = .ok (.iconst 5, 1) := by decide +kernel
theorem dX0_comes_3 : decode cX0_comes 3 = .ok (.invokestatic 44, 3) := by decide +kernel
theorem dX0_comes_6 : decode cX0_comes 6 = .ok (.ifCond .eq 13, 3) := by decide +kernel
theorem dX0_comes_9 : decode cX0_comes 9 = .ok (.iload_n 2, 1) := by decide +kernel
theorem dX0_comes_10 : decode cX0_comes 10 = .ok (.iconst 0, 1) := by decide +kernel
theorem dX0_comes_11 : decode cX0_comes 11 = .ok (.bipush 9, 2) := by decide +kernel
theorem dX0_comes_13 : decode cX0_comes 13 = .ok (.invokestatic 44, 3) := by decide +kernel
theorem dX0_comes_16 : decode cX0_comes 16 = .ok (.ifCond .ne 6, 3) := by decide +kernel
theorem dX0_comes_19 : decode cX0_comes 19 = .ok (.bipush (-2), 2) := by decide +kernel
theorem dX0_comes_21 : decode cX0_comes 21 = .ok (.ireturn, 1) := by decide +kernel
theorem dX0_comes_22 : decode cX0_comes 22 = .ok (.aload_n 0, 1) := by decide +kernel
theorem dX0_comes_23 : decode cX0_comes 23 = .ok (.getfield 31, 3) := by decide +kernel
theorem dX0_comes_26 : decode cX0_comes 26 = .ok (.ifCond .lt 12, 3) := by decide +kernel
theorem dX0_comes_29 : decode cX0_comes 29 = .ok (.aload_n 0, 1) := by decide +kernel
theorem dX0_comes_30 : decode cX0_comes 30 = .ok (.getfield 31, 3) := by decide +kernel
theorem dX0_comes_33 : decode cX0_comes 33 = .ok (.bipush 6, 2) := by decide +kernel
theorem dX0_comes_35 : decode cX0_comes 35 = .ok (.if_icmp .lt 6, 3) := by decide +kernel
theorem dX0_comes_38 : decode cX0_comes 38 = .ok (.bipush (-4), 2) := by decide +kernel
theorem dX0_comes_40 : decode cX0_comes 40 = .ok (.ireturn, 1) := by decide +kernel
theorem dX0_comes_41 : decode cX0_comes 41 = .ok (.aload_n 0, 1) := by decide +kernel
theorem dX0_comes_42 : decode cX0_comes 42 = .ok (.getfield 9, 3) := by decide +kernel
theorem dX0_comes_45 : decode cX0_comes 45 = .ok (.aload_n 0, 1) := by decide +kernel
theorem dX0_comes_46 : decode cX0_comes 46 = .ok (.getfield 31, 3) := by decide +kernel
theorem dX0_comes_49 : decode cX0_comes 49 = .ok (.iload_n 1, 1) := by decide +kernel
theorem dX0_comes_50 : decode cX0_comes 50 = .ok (.iastore, 1) := by decide +kernel
theorem dX0_comes_51 : decode cX0_comes 51 = .ok (.aload_n 0, 1) := by decide +kernel
theorem dX0_comes_52 : decode cX0_comes 52 = .ok (.getfield 15, 3) := by decide +kernel
theorem dX0_comes_55 : decode cX0_comes 55 = .ok (.aload_n 0, 1) := by decide +kernel
theorem dX0_comes_56 : decode cX0_comes 56 = .ok (.getfield 31, 3) := by decide +kernel
theorem dX0_comes_59 : decode cX0_comes 59 = .ok (.iload_n 2, 1) := by decide +kernel
theorem dX0_comes_60 : decode cX0_comes 60 = .ok (.iastore, 1) := by decide +kernel
theorem dX0_comes_61 : decode cX0_comes 61 = .ok (.aload_n 0, 1) := by decide +kernel
theorem dX0_comes_62 : decode cX0_comes 62 = .ok (.getfield 18, 3) := by decide +kernel
theorem dX0_comes_65 : decode cX0_comes 65 = .ok (.aload_n 0, 1) := by decide +kernel
theorem dX0_comes_66 : decode cX0_comes 66 = .ok (.getfield 31, 3) := by decide +kernel
theorem dX0_comes_69 : decode cX0_comes 69 = .ok (.bipush 50, 2) := by decide +kernel
theorem dX0_comes_71 : decode cX0_comes 71 = .ok (.iastore, 1) := by decide +kernel
theorem dX0_comes_72 : decode cX0_comes 72 = .ok (.aload_n 0, 1) := by decide +kernel
theorem dX0_comes_73 : decode cX0_comes 73 = .ok (.getfield 21, 3) := by decide +kernel
theorem dX0_comes_76 : decode cX0_comes 76 = .ok (.aload_n 0, 1) := by decide +kernel
theorem dX0_comes_77 : decode cX0_comes 77 = .ok (.getfield 31, 3) := by decide +kernel
theorem dX0_comes_80 : decode cX0_comes 80 = .ok (.iconst 0, 1) := by decide +kernel
theorem dX0_comes_81 : decode cX0_comes 81 = .ok (.iastore, 1) := by decide +kernel
theorem dX0_comes_82 : decode cX0_comes 82 = .ok (.aload_n 0, 1) := by decide +kernel
theorem dX0_comes_83 : decode cX0_comes 83 = .ok (.getfield 24, 3) := by decide +kernel
theorem dX0_comes_86 : decode cX0_comes 86 = .ok (.aload_n 0, 1) := by decide +kernel
theorem dX0_comes_87 : decode cX0_comes 87 = .ok (.getfield 31, 3) := by decide +kernel
theorem dX0_comes_90 : decode cX0_comes 90 = .ok (.iconst 0, 1) := by decide +kernel
theorem dX0_comes_91 : decode cX0_comes 91 = .ok (.iastore, 1) := by decide +kernel
theorem dX0_comes_92 : decode cX0_comes 92 = .ok (.aload_n 0, 1) := by decide +kernel
theorem dX0_comes_93 : decode cX0_comes 93 = .ok (.dup, 1) := by decide +kernel
theorem dX0_comes_94 : decode cX0_comes 94 = .ok (.getfield 31, 3) := by decide +kernel
theorem dX0_comes_97 : decode cX0_comes 97 = .ok (.iconst 1, 1) := by decide +kernel
theorem dX0_comes_98 : decode cX0_comes 98 = .ok (.iadd, 1) := by decide +kernel
theorem dX0_comes_99 : decode cX0_comes 99 = .ok (.putfield 31, 3) := by decide +kernel
theorem dX0_comes_102 : decode cX0_comes 102 = .ok (.aload_n 0, 1) := by decide +kernel
theorem dX0_comes_103 : decode cX0_comes 103 = .ok (.getfield 31, 3) := by decide +kernel
theorem dX0_comes_106 : decode cX0_comes 106 = .ok (.iconst 1, 1) := by decide +kernel
theorem dX0_comes_107 : decode cX0_comes 107 = .ok (.isub, 1) := by decide +kernel
theorem dX0_comes_108 : decode cX0_comes 108 = .ok (.ireturn, 1) := by decide +kernel
theorem dX0_isPlayer_0 : decode cX0_isPlayer 0 = .ok (.iload_n 1, 1) := by decide +kernel
theorem dX0_isPlayer_1 : decode cX0_isPlayer 1 = .ok (.ifCond .lt 21, 3) := by decide +kernel
theorem dX0_isPlayer_4 : decode cX0_isPlayer 4 = .ok (.iload_n 1, 1) := by decide +kernel
theorem dX0_isPlayer_5 : decode cX0_isPlayer 5 = .ok (.aload_n 0, 1) := by decide +kernel
theorem dX0_isPlayer_6 : decode cX0_isPlayer 6 = .ok (.getfield 31, 3) := by decide +kernel
theorem dX0_isPlayer_9 : decode cX0_isPlayer 9 = .ok (.if_icmp .ge 13, 3) := by decide +kernel
theorem dX0_isPlayer_12 : decode cX0_isPlayer 12 = .ok (.iload_n 1, 1) := by decide +kernel
theorem dX0_isPlayer_13 : decode cX0_isPlayer 13 = .ok (.bipush 6, 2) := by decide +kernel
theorem dX0_isPlayer_15 : decode cX0_isPlayer 15 = .ok (.if_icmp .ge 7, 3) := by decide +kernel
theorem dX0_isPlayer_18 : decode cX0_isPlayer 18 = .ok (.iconst 1, 1) := by decide +kernel
theorem dX0_isPlayer_19 : decode cX0_isPlayer 19 = .ok (.goto 4, 3) := by decide +kernel
theorem dX0_isPlayer_22 : decode cX0_isPlayer 22 = .ok (.iconst 0, 1) := by decide +kernel
theorem dX0_isPlayer_23 : decode cX0_isPlayer 23 = .ok (.ireturn, 1) := by decide +kernel
theorem dX0_areTwo_0 : decode cX0_areTwo 0 = .ok (.iload_n 1, 1) := by decide +kernel
theorem dX0_areTwo_1 : decode cX0_areTwo 1 = .ok (.ifCond .lt 21, 3) := by decide +kernel
theorem dX0_areTwo_4 : decode cX0_areTwo 4 = .ok (.iload_n 1, 1) := by decide +kernel
theorem dX0_areTwo_5 : decode cX0_areTwo 5 = .ok (.aload_n 0, 1) := by decide +kernel
theorem dX0_areTwo_6 : decode cX0_areTwo 6 = .ok (.getfield 31, 3) := by decide +kernel
theorem dX0_areTwo_9 : decode cX0_areTwo 9 = .ok (.if_icmp .ge 13, 3) := by decide +kernel
theorem dX0_areTwo_12 : decode cX0_areTwo 12 = .ok (.iload_n 1, 1) := by decide +kernel
theorem dX0_areTwo_13 : decode cX0_areTwo 13 = .ok (.bipush 6, 2) := by decide +kernel
theorem dX0_areTwo_15 : decode cX0_areTwo 15 = .ok (.if_icmp .ge 7, 3) := by decide +kernel
theorem dX0_areTwo_18 : decode cX0_areTwo 18 = .ok (.iconst 1, 1) := by decide +kernel
theorem dX0_areTwo_19 : decode cX0_areTwo 19 = .ok (.goto 4, 3) := by decide +kernel
theorem dX0_areTwo_22 : decode cX0_areTwo 22 = .ok (.iconst 0, 1) := by decide +kernel
theorem dX0_areTwo_23 : decode cX0_areTwo 23 = .ok (.istore_n 3, 1) := by decide +kernel
theorem dX0_areTwo_24 : decode cX0_areTwo 24 = .ok (.iload_n 3, 1) := by decide +kernel
theorem dX0_areTwo_25 : decode cX0_areTwo 25 = .ok (.ifCond .eq 30, 3) := by decide +kernel
theorem dX0_areTwo_28 : decode cX0_areTwo 28 = .ok (.iload_n 2, 1) := by decide +kernel
theorem dX0_areTwo_29 : decode cX0_areTwo 29 = .ok (.ifCond .lt 26, 3) := by decide +kernel
theorem dX0_areTwo_32 : decode cX0_areTwo 32 = .ok (.iload_n 2, 1) := by decide +kernel
theorem dX0_areTwo_33 : decode cX0_areTwo 33 = .ok (.aload_n 0, 1) := by decide +kernel
theorem dX0_areTwo_34 : decode cX0_areTwo 34 = .ok (.getfield 31, 3) := by decide +kernel
theorem dX0_areTwo_37 : decode cX0_areTwo 37 = .ok (.if_icmp .ge 18, 3) := by decide +kernel
theorem dX0_areTwo_40 : decode cX0_areTwo 40 = .ok (.iload_n 2, 1) := by decide +kernel
theorem dX0_areTwo_41 : decode cX0_areTwo 41 = .ok (.bipush 6, 2) := by decide +kernel
theorem dX0_areTwo_43 : decode cX0_areTwo 43 = .ok (.if_icmp .ge 12, 3) := by decide +kernel
theorem dX0_areTwo_46 : decode cX0_areTwo 46 = .ok (.iload_n 1, 1) := by decide +kernel
theorem dX0_areTwo_47 : decode cX0_areTwo 47 = .ok (.iload_n 2, 1) := by decide +kernel
theorem dX0_areTwo_48 : decode cX0_areTwo 48 = .ok (.if_icmp .eq 7, 3) := by decide +kernel
theorem dX0_areTwo_51 : decode cX0_areTwo 51 = .ok (.iconst 1, 1) := by decide +kernel
theorem dX0_areTwo_52 : decode cX0_areTwo 52 = .ok (.goto 4, 3) := by decide +kernel
theorem dX0_areTwo_55 : decode cX0_areTwo 55 = .ok (.iconst 0, 1) := by decide +kernel
theorem dX0_areTwo_56 : decode cX0_areTwo 56 = .ok (.ireturn, 1) := by decide +kernel
theorem dX0_placeOf_0 : decode cX0_placeOf 0 = .ok (.iconst 0, 1) := by decide +kernel
theorem dX0_placeOf_1 : decode cX0_placeOf 1 = .ok (.istore_n 2, 1) := by decide +kernel
theorem dX0_placeOf_2 : decode cX0_placeOf 2 = .ok (.iload_n 2, 1) := by decide +kernel
theorem dX0_placeOf_3 : decode cX0_placeOf 3 = .ok (.bipush 6, 2) := by decide +kernel
theorem dX0_placeOf_5 : decode cX0_placeOf 5 = .ok (.if_icmp .ge 24, 3) := by decide +kernel
theorem dX0_placeOf_8 : decode cX0_placeOf 8 = .ok (.aload_n 0, 1) := by decide +kernel
theorem dX0_placeOf_9 : decode cX0_placeOf 9 = .ok (.getfield 24, 3) := by decide +kernel
theorem dX0_placeOf_12 : decode cX0_placeOf 12 = .ok (.iload_n 2, 1) := by decide +kernel
theorem dX0_placeOf_13 : decode cX0_placeOf 13 = .ok (.iaload, 1) := by decide +kernel
theorem dX0_placeOf_14 : decode cX0_placeOf 14 = .ok (.iload_n 1, 1) := by decide +kernel
theorem dX0_placeOf_15 : decode cX0_placeOf 15 = .ok (.ishr, 1) := by decide +kernel
theorem dX0_placeOf_16 : decode cX0_placeOf 16 = .ok (.iconst 1, 1) := by decide +kernel
theorem dX0_placeOf_17 : decode cX0_placeOf 17 = .ok (.iand, 1) := by decide +kernel
theorem dX0_placeOf_18 : decode cX0_placeOf 18 = .ok (.ifCond .eq 5, 3) := by decide +kernel
theorem dX0_placeOf_21 : decode cX0_placeOf 21 = .ok (.iload_n 2, 1) := by decide +kernel
theorem dX0_placeOf_22 : decode cX0_placeOf 22 = .ok (.ireturn, 1) := by decide +kernel
theorem dX0_placeOf_23 : decode cX0_placeOf 23 = .ok (.iinc 2 1, 3) := by decide +kernel
theorem dX0_placeOf_26 : decode cX0_placeOf 26 = .ok (.goto (-24), 3) := by decide +kernel
theorem dX0_placeOf_29 : decode cX0_placeOf 29 = .ok (.iconst (-1), 1) := by decide +kernel
theorem dX0_placeOf_30 : decode cX0_placeOf 30 = .ok (.ireturn, 1) := by decide +kernel
theorem dX0_bring_0 : decode cX0_bring 0 = .ok (.iconst 1, 1) := by decide +kernel
theorem dX0_bring_1 : decode cX0_bring 1 = .ok (.iload_n 1, 1) := by decide +kernel
theorem dX0_bring_2 : decode cX0_bring 2 = .ok (.ishl, 1) := by decide +kernel
theorem dX0_bring_3 : decode cX0_bring 3 = .ok (.istore_n 3, 1) := by decide +kernel
theorem dX0_bring_4 : decode cX0_bring 4 = .ok (.aload_n 0, 1) := by decide +kernel
theorem dX0_bring_5 : decode cX0_bring 5 = .ok (.dup, 1) := by decide +kernel
theorem dX0_bring_6 : decode cX0_bring 6 = .ok (.getfield 27, 3) := by decide +kernel
theorem dX0_bring_9 : decode cX0_bring 9 = .ok (.iload_n 3, 1) := by decide +kernel
theorem dX0_bring_10 : decode cX0_bring 10 = .ok (.iconst (-1), 1) := by decide +kernel
theorem dX0_bring_11 : decode cX0_bring 11 = .ok (.ixor, 1) := by decide +kernel
theorem dX0_bring_12 : decode cX0_bring 12 = .ok (.iand, 1) := by decide +kernel
theorem dX0_bring_13 : decode cX0_bring 13 = .ok (.putfield 27, 3) := by decide +kernel
theorem dX0_bring_16 : decode cX0_bring 16 = .ok (.iconst 0, 1) := by decide +kernel
theorem dX0_bring_17 : decode cX0_bring 17 = .ok (.istore 4, 2) := by decide +kernel
theorem dX0_bring_19 : decode cX0_bring 19 = .ok (.iload 4, 2) := by decide +kernel
theorem dX0_bring_21 : decode cX0_bring 21 = .ok (.bipush 6, 2) := by decide +kernel
theorem dX0_bring_23 : decode cX0_bring 23 = .ok (.if_icmp .ge 22, 3) := by decide +kernel
theorem dX0_bring_26 : decode cX0_bring 26 = .ok (.aload_n 0, 1) := by decide +kernel
theorem dX0_bring_27 : decode cX0_bring 27 = .ok (.getfield 24, 3) := by decide +kernel
theorem dX0_bring_30 : decode cX0_bring 30 = .ok (.iload 4, 2) := by decide +kernel
theorem dX0_bring_32 : decode cX0_bring 32 = .ok (.dup2, 1) := by decide +kernel
theorem dX0_bring_33 : decode cX0_bring 33 = .ok (.iaload, 1) := by decide +kernel
theorem dX0_bring_34 : decode cX0_bring 34 = .ok (.iload_n 3, 1) := by decide +kernel
theorem dX0_bring_35 : decode cX0_bring 35 = .ok (.iconst (-1), 1) := by decide +kernel
theorem dX0_bring_36 : decode cX0_bring 36 = .ok (.ixor, 1) := by decide +kernel
theorem dX0_bring_37 : decode cX0_bring 37 = .ok (.iand, 1) := by decide +kernel
theorem dX0_bring_38 : decode cX0_bring 38 = .ok (.iastore, 1) := by decide +kernel
theorem dX0_bring_39 : decode cX0_bring 39 = .ok (.iinc 4 1, 3) := by decide +kernel
theorem dX0_bring_42 : decode cX0_bring 42 = .ok (.goto (-23), 3) := by decide +kernel
theorem dX0_bring_45 : decode cX0_bring 45 = .ok (.aload_n 0, 1) := by decide +kernel
theorem dX0_bring_46 : decode cX0_bring 46 = .ok (.iload_n 2, 1) := by decide +kernel
theorem dX0_bring_47 : decode cX0_bring 47 = .ok (.invokevirtual 48, 3) := by decide +kernel
theorem dX0_bring_50 : decode cX0_bring 50 = .ok (.ifCond .eq 16, 3) := by decide +kernel
theorem dX0_bring_53 : decode cX0_bring 53 = .ok (.aload_n 0, 1) := by decide +kernel
theorem dX0_bring_54 : decode cX0_bring 54 = .ok (.getfield 24, 3) := by decide +kernel
theorem dX0_bring_57 : decode cX0_bring 57 = .ok (.iload_n 2, 1) := by decide +kernel
theorem dX0_bring_58 : decode cX0_bring 58 = .ok (.dup2, 1) := by decide +kernel
theorem dX0_bring_59 : decode cX0_bring 59 = .ok (.iaload, 1) := by decide +kernel
theorem dX0_bring_60 : decode cX0_bring 60 = .ok (.iload_n 3, 1) := by decide +kernel
theorem dX0_bring_61 : decode cX0_bring 61 = .ok (.ior, 1) := by decide +kernel
theorem dX0_bring_62 : decode cX0_bring 62 = .ok (.iastore, 1) := by decide +kernel
theorem dX0_bring_63 : decode cX0_bring 63 = .ok (.goto 13, 3) := by decide +kernel
theorem dX0_bring_66 : decode cX0_bring 66 = .ok (.aload_n 0, 1) := by decide +kernel
theorem dX0_bring_67 : decode cX0_bring 67 = .ok (.dup, 1) := by decide +kernel
theorem dX0_bring_68 : decode cX0_bring 68 = .ok (.getfield 27, 3) := by decide +kernel
theorem dX0_bring_71 : decode cX0_bring 71 = .ok (.iload_n 3, 1) := by decide +kernel
theorem dX0_bring_72 : decode cX0_bring 72 = .ok (.ior, 1) := by decide +kernel
theorem dX0_bring_73 : decode cX0_bring 73 = .ok (.putfield 27, 3) := by decide +kernel
theorem dX0_bring_76 : decode cX0_bring 76 = .ok (.return_, 1) := by decide +kernel
theorem dX0_manyInHall_0 : decode cX0_manyInHall 0 = .ok (.aload_n 0, 1) := by decide +kernel
theorem dX0_manyInHall_1 : decode cX0_manyInHall 1 = .ok (.getfield 27, 3) := by decide +kernel
theorem dX0_manyInHall_4 : decode cX0_manyInHall 4 = .ok (.invokestatic 52, 3) := by decide +kernel
theorem dX0_manyInHall_7 : decode cX0_manyInHall 7 = .ok (.ireturn, 1) := by decide +kernel
theorem dX0_howMany_0 : decode cX0_howMany 0 = .ok (.aload_n 0, 1) := by decide +kernel
theorem dX0_howMany_1 : decode cX0_howMany 1 = .ok (.iload_n 1, 1) := by decide +kernel
theorem dX0_howMany_2 : decode cX0_howMany 2 = .ok (.invokevirtual 48, 3) := by decide +kernel
theorem dX0_howMany_5 : decode cX0_howMany 5 = .ok (.ifCond .eq 15, 3) := by decide +kernel
theorem dX0_howMany_8 : decode cX0_howMany 8 = .ok (.aload_n 0, 1) := by decide +kernel
theorem dX0_howMany_9 : decode cX0_howMany 9 = .ok (.getfield 24, 3) := by decide +kernel
theorem dX0_howMany_12 : decode cX0_howMany 12 = .ok (.iload_n 1, 1) := by decide +kernel
theorem dX0_howMany_13 : decode cX0_howMany 13 = .ok (.iaload, 1) := by decide +kernel
theorem dX0_howMany_14 : decode cX0_howMany 14 = .ok (.invokestatic 52, 3) := by decide +kernel
theorem dX0_howMany_17 : decode cX0_howMany 17 = .ok (.goto 4, 3) := by decide +kernel
theorem dX0_howMany_20 : decode cX0_howMany 20 = .ok (.iconst 0, 1) := by decide +kernel
theorem dX0_howMany_21 : decode cX0_howMany 21 = .ok (.ireturn, 1) := by decide +kernel
theorem dX0_whoHasMost_0 : decode cX0_whoHasMost 0 = .ok (.iconst 0, 1) := by decide +kernel
theorem dX0_whoHasMost_1 : decode cX0_whoHasMost 1 = .ok (.istore_n 1, 1) := by decide +kernel
theorem dX0_whoHasMost_2 : decode cX0_whoHasMost 2 = .ok (.iconst (-1), 1) := by decide +kernel
theorem dX0_whoHasMost_3 : decode cX0_whoHasMost 3 = .ok (.istore_n 2, 1) := by decide +kernel
theorem dX0_whoHasMost_4 : decode cX0_whoHasMost 4 = .ok (.iconst 0, 1) := by decide +kernel
theorem dX0_whoHasMost_5 : decode cX0_whoHasMost 5 = .ok (.istore_n 3, 1) := by decide +kernel
theorem dX0_whoHasMost_6 : decode cX0_whoHasMost 6 = .ok (.iload_n 3, 1) := by decide +kernel
theorem dX0_whoHasMost_7 : decode cX0_whoHasMost 7 = .ok (.aload_n 0, 1) := by decide +kernel
theorem dX0_whoHasMost_8 : decode cX0_whoHasMost 8 = .ok (.getfield 31, 3) := by decide +kernel
theorem dX0_whoHasMost_11 : decode cX0_whoHasMost 11 = .ok (.if_icmp .ge 26, 3) := by decide +kernel
theorem dX0_whoHasMost_14 : decode cX0_whoHasMost 14 = .ok (.aload_n 0, 1) := by decide +kernel
theorem dX0_whoHasMost_15 : decode cX0_whoHasMost 15 = .ok (.iload_n 3, 1) := by decide +kernel
theorem dX0_whoHasMost_16 : decode cX0_whoHasMost 16 = .ok (.invokevirtual 58, 3) := by decide +kernel
theorem dX0_whoHasMost_19 : decode cX0_whoHasMost 19 = .ok (.iload_n 1, 1) := by decide +kernel
theorem dX0_whoHasMost_20 : decode cX0_whoHasMost 20 = .ok (.if_icmp .le 11, 3) := by decide +kernel
theorem dX0_whoHasMost_23 : decode cX0_whoHasMost 23 = .ok (.aload_n 0, 1) := by decide +kernel
theorem dX0_whoHasMost_24 : decode cX0_whoHasMost 24 = .ok (.iload_n 3, 1) := by decide +kernel
theorem dX0_whoHasMost_25 : decode cX0_whoHasMost 25 = .ok (.invokevirtual 58, 3) := by decide +kernel
theorem dX0_whoHasMost_28 : decode cX0_whoHasMost 28 = .ok (.istore_n 1, 1) := by decide +kernel
theorem dX0_whoHasMost_29 : decode cX0_whoHasMost 29 = .ok (.iload_n 3, 1) := by decide +kernel
theorem dX0_whoHasMost_30 : decode cX0_whoHasMost 30 = .ok (.istore_n 2, 1) := by decide +kernel
theorem dX0_whoHasMost_31 : decode cX0_whoHasMost 31 = .ok (.iinc 3 1, 3) := by decide +kernel
theorem dX0_whoHasMost_34 : decode cX0_whoHasMost 34 = .ok (.goto (-28), 3) := by decide +kernel
theorem dX0_whoHasMost_37 : decode cX0_whoHasMost 37 = .ok (.iload_n 2, 1) := by decide +kernel
theorem dX0_whoHasMost_38 : decode cX0_whoHasMost 38 = .ok (.ireturn, 1) := by decide +kernel
theorem dX0_whoHasAll_0 : decode cX0_whoHasAll 0 = .ok (.iconst 0, 1) := by decide +kernel
theorem dX0_whoHasAll_1 : decode cX0_whoHasAll 1 = .ok (.istore_n 1, 1) := by decide +kernel
theorem dX0_whoHasAll_2 : decode cX0_whoHasAll 2 = .ok (.iconst 0, 1) := by decide +kernel
theorem dX0_whoHasAll_3 : decode cX0_whoHasAll 3 = .ok (.istore_n 2, 1) := by decide +kernel
theorem dX0_whoHasAll_4 : decode cX0_whoHasAll 4 = .ok (.iload_n 2, 1) := by decide +kernel
theorem dX0_whoHasAll_5 : decode cX0_whoHasAll 5 = .ok (.aload_n 0, 1) := by decide +kernel
theorem dX0_whoHasAll_6 : decode cX0_whoHasAll 6 = .ok (.getfield 31, 3) := by decide +kernel
theorem dX0_whoHasAll_9 : decode cX0_whoHasAll 9 = .ok (.if_icmp .ge 25, 3) := by decide +kernel
theorem dX0_whoHasAll_12 : decode cX0_whoHasAll 12 = .ok (.aload_n 0, 1) := by decide +kernel
theorem dX0_whoHasAll_13 : decode cX0_whoHasAll 13 = .ok (.iload_n 2, 1) := by decide +kernel
theorem dX0_whoHasAll_14 : decode cX0_whoHasAll 14 = .ok (.invokevirtual 58, 3) := by decide +kernel
theorem dX0_whoHasAll_17 : decode cX0_whoHasAll 17 = .ok (.bipush 8, 2) := by decide +kernel
theorem dX0_whoHasAll_19 : decode cX0_whoHasAll 19 = .ok (.if_icmp .ne 9, 3) := by decide +kernel
theorem dX0_whoHasAll_22 : decode cX0_whoHasAll 22 = .ok (.iload_n 1, 1) := by decide +kernel
theorem dX0_whoHasAll_23 : decode cX0_whoHasAll 23 = .ok (.iconst 1, 1) := by decide +kernel
theorem dX0_whoHasAll_24 : decode cX0_whoHasAll 24 = .ok (.iload_n 2, 1) := by decide +kernel
theorem dX0_whoHasAll_25 : decode cX0_whoHasAll 25 = .ok (.ishl, 1) := by decide +kernel
theorem dX0_whoHasAll_26 : decode cX0_whoHasAll 26 = .ok (.ior, 1) := by decide +kernel
theorem dX0_whoHasAll_27 : decode cX0_whoHasAll 27 = .ok (.istore_n 1, 1) := by decide +kernel
theorem dX0_whoHasAll_28 : decode cX0_whoHasAll 28 = .ok (.iinc 2 1, 3) := by decide +kernel
theorem dX0_whoHasAll_31 : decode cX0_whoHasAll 31 = .ok (.goto (-27), 3) := by decide +kernel
theorem dX0_whoHasAll_34 : decode cX0_whoHasAll 34 = .ok (.iload_n 1, 1) := by decide +kernel
theorem dX0_whoHasAll_35 : decode cX0_whoHasAll 35 = .ok (.ireturn, 1) := by decide +kernel
theorem dX0_nameValues_0 : decode cX0_nameValues 0 = .ok (.aload_n 0, 1) := by decide +kernel
theorem dX0_nameValues_1 : decode cX0_nameValues 1 = .ok (.getfield 40, 3) := by decide +kernel
theorem dX0_nameValues_4 : decode cX0_nameValues 4 = .ok (.getfield 61, 3) := by decide +kernel
theorem dX0_nameValues_7 : decode cX0_nameValues 7 = .ok (.astore_n 3, 1) := by decide +kernel
theorem dX0_nameValues_8 : decode cX0_nameValues 8 = .ok (.aload_n 3, 1) := by decide +kernel
theorem dX0_nameValues_9 : decode cX0_nameValues 9 = .ok (.iconst 0, 1) := by decide +kernel
theorem dX0_nameValues_10 : decode cX0_nameValues 10 = .ok (.aload_n 0, 1) := by decide +kernel
theorem dX0_nameValues_11 : decode cX0_nameValues 11 = .ok (.getfield 18, 3) := by decide +kernel
theorem dX0_nameValues_14 : decode cX0_nameValues 14 = .ok (.iload_n 1, 1) := by decide +kernel
theorem dX0_nameValues_15 : decode cX0_nameValues 15 = .ok (.iaload, 1) := by decide +kernel
theorem dX0_nameValues_16 : decode cX0_nameValues 16 = .ok (.iastore, 1) := by decide +kernel
theorem dX0_nameValues_17 : decode cX0_nameValues 17 = .ok (.aload_n 3, 1) := by decide +kernel
theorem dX0_nameValues_18 : decode cX0_nameValues 18 = .ok (.iconst 1, 1) := by decide +kernel
theorem dX0_nameValues_19 : decode cX0_nameValues 19 = .ok (.aload_n 0, 1) := by decide +kernel
theorem dX0_nameValues_20 : decode cX0_nameValues 20 = .ok (.getfield 24, 3) := by decide +kernel
theorem dX0_nameValues_23 : decode cX0_nameValues 23 = .ok (.iload_n 1, 1) := by decide +kernel
theorem dX0_nameValues_24 : decode cX0_nameValues 24 = .ok (.iaload, 1) := by decide +kernel
theorem dX0_nameValues_25 : decode cX0_nameValues 25 = .ok (.invokestatic 52, 3) := by decide +kernel
theorem dX0_nameValues_28 : decode cX0_nameValues 28 = .ok (.iastore, 1) := by decide +kernel
theorem dX0_nameValues_29 : decode cX0_nameValues 29 = .ok (.aload_n 3, 1) := by decide +kernel
theorem dX0_nameValues_30 : decode cX0_nameValues 30 = .ok (.iconst 2, 1) := by decide +kernel
theorem dX0_nameValues_31 : decode cX0_nameValues 31 = .ok (.aload_n 0, 1) := by decide +kernel
theorem dX0_nameValues_32 : decode cX0_nameValues 32 = .ok (.getfield 15, 3) := by decide +kernel
theorem dX0_nameValues_35 : decode cX0_nameValues 35 = .ok (.iload_n 1, 1) := by decide +kernel
theorem dX0_nameValues_36 : decode cX0_nameValues 36 = .ok (.iaload, 1) := by decide +kernel
theorem dX0_nameValues_37 : decode cX0_nameValues 37 = .ok (.iastore, 1) := by decide +kernel
theorem dX0_nameValues_38 : decode cX0_nameValues 38 = .ok (.aload_n 3, 1) := by decide +kernel
theorem dX0_nameValues_39 : decode cX0_nameValues 39 = .ok (.iconst 3, 1) := by decide +kernel
theorem dX0_nameValues_40 : decode cX0_nameValues 40 = .ok (.aload_n 0, 1) := by decide +kernel
theorem dX0_nameValues_41 : decode cX0_nameValues 41 = .ok (.getfield 18, 3) := by decide +kernel
theorem dX0_nameValues_44 : decode cX0_nameValues 44 = .ok (.iload_n 2, 1) := by decide +kernel
theorem dX0_nameValues_45 : decode cX0_nameValues 45 = .ok (.iaload, 1) := by decide +kernel
theorem dX0_nameValues_46 : decode cX0_nameValues 46 = .ok (.iastore, 1) := by decide +kernel
theorem dX0_nameValues_47 : decode cX0_nameValues 47 = .ok (.aload_n 3, 1) := by decide +kernel
theorem dX0_nameValues_48 : decode cX0_nameValues 48 = .ok (.iconst 4, 1) := by decide +kernel
theorem dX0_nameValues_49 : decode cX0_nameValues 49 = .ok (.aload_n 0, 1) := by decide +kernel
theorem dX0_nameValues_50 : decode cX0_nameValues 50 = .ok (.getfield 34, 3) := by decide +kernel
theorem dX0_nameValues_53 : decode cX0_nameValues 53 = .ok (.iastore, 1) := by decide +kernel
theorem dX0_nameValues_54 : decode cX0_nameValues 54 = .ok (.aload_n 3, 1) := by decide +kernel
theorem dX0_nameValues_55 : decode cX0_nameValues 55 = .ok (.iconst 5, 1) := by decide +kernel
theorem dX0_nameValues_56 : decode cX0_nameValues 56 = .ok (.aload_n 0, 1) := by decide +kernel
theorem dX0_nameValues_57 : decode cX0_nameValues 57 = .ok (.getfield 24, 3) := by decide +kernel
theorem dX0_nameValues_60 : decode cX0_nameValues 60 = .ok (.iload_n 2, 1) := by decide +kernel
theorem dX0_nameValues_61 : decode cX0_nameValues 61 = .ok (.iaload, 1) := by decide +kernel
theorem dX0_nameValues_62 : decode cX0_nameValues 62 = .ok (.aload_n 0, 1) := by decide +kernel
theorem dX0_nameValues_63 : decode cX0_nameValues 63 = .ok (.getfield 27, 3) := by decide +kernel
theorem dX0_nameValues_66 : decode cX0_nameValues 66 = .ok (.ior, 1) := by decide +kernel
theorem dX0_nameValues_67 : decode cX0_nameValues 67 = .ok (.invokestatic 52, 3) := by decide +kernel
theorem dX0_nameValues_70 : decode cX0_nameValues 70 = .ok (.iastore, 1) := by decide +kernel
theorem dX0_nameValues_71 : decode cX0_nameValues 71 = .ok (.return_, 1) := by decide +kernel
theorem dX0_playsBy_0 : decode cX0_playsBy 0 = .ok (.aload_n 0, 1) := by decide +kernel
theorem dX0_playsBy_1 : decode cX0_playsBy 1 = .ok (.getfield 9, 3) := by decide +kernel
theorem dX0_playsBy_4 : decode cX0_playsBy 4 = .ok (.iload_n 2, 1) := by decide +kernel
theorem dX0_playsBy_5 : decode cX0_playsBy 5 = .ok (.iaload, 1) := by decide +kernel
theorem dX0_playsBy_6 : decode cX0_playsBy 6 = .ok (.tableswitch 99 1 5 #[34, 38, 42, 68, 97], 34) := by decide +kernel
theorem dX0_playsBy_40 : decode cX0_playsBy 40 = .ok (.iconst 2, 1) := by decide +kernel
theorem dX0_playsBy_41 : decode cX0_playsBy 41 = .ok (.iload_n 1, 1) := by decide +kernel
theorem dX0_playsBy_42 : decode cX0_playsBy 42 = .ok (.imul, 1) := by decide +kernel
theorem dX0_playsBy_43 : decode cX0_playsBy 43 = .ok (.ireturn, 1) := by decide +kernel
theorem dX0_playsBy_44 : decode cX0_playsBy 44 = .ok (.iload_n 1, 1) := by decide +kernel
theorem dX0_playsBy_45 : decode cX0_playsBy 45 = .ok (.iconst 2, 1) := by decide +kernel
theorem dX0_playsBy_46 : decode cX0_playsBy 46 = .ok (.idiv, 1) := by decide +kernel
theorem dX0_playsBy_47 : decode cX0_playsBy 47 = .ok (.ireturn, 1) := by decide +kernel
theorem dX0_playsBy_48 : decode cX0_playsBy 48 = .ok (.aload_n 0, 1) := by decide +kernel
theorem dX0_playsBy_49 : decode cX0_playsBy 49 = .ok (.getfield 24, 3) := by decide +kernel
theorem dX0_playsBy_52 : decode cX0_playsBy 52 = .ok (.iload_n 2, 1) := by decide +kernel
theorem dX0_playsBy_53 : decode cX0_playsBy 53 = .ok (.iaload, 1) := by decide +kernel
theorem dX0_playsBy_54 : decode cX0_playsBy 54 = .ok (.ifCond .ne 16, 3) := by decide +kernel
theorem dX0_playsBy_57 : decode cX0_playsBy 57 = .ok (.iconst 2, 1) := by decide +kernel
theorem dX0_playsBy_58 : decode cX0_playsBy 58 = .ok (.iload_n 1, 1) := by decide +kernel
theorem dX0_playsBy_59 : decode cX0_playsBy 59 = .ok (.imul, 1) := by decide +kernel
theorem dX0_playsBy_60 : decode cX0_playsBy 60 = .ok (.aload_n 0, 1) := by decide +kernel
theorem dX0_playsBy_61 : decode cX0_playsBy 61 = .ok (.getfield 15, 3) := by decide +kernel
theorem dX0_playsBy_64 : decode cX0_playsBy 64 = .ok (.iload_n 2, 1) := by decide +kernel
theorem dX0_playsBy_65 : decode cX0_playsBy 65 = .ok (.iaload, 1) := by decide +kernel
theorem dX0_playsBy_66 : decode cX0_playsBy 66 = .ok (.iadd, 1) := by decide +kernel
theorem dX0_playsBy_67 : decode cX0_playsBy 67 = .ok (.goto 6, 3) := by decide +kernel
theorem dX0_playsBy_70 : decode cX0_playsBy 70 = .ok (.iconst 2, 1) := by decide +kernel
theorem dX0_playsBy_71 : decode cX0_playsBy 71 = .ok (.iload_n 1, 1) := by decide +kernel
theorem dX0_playsBy_72 : decode cX0_playsBy 72 = .ok (.imul, 1) := by decide +kernel
theorem dX0_playsBy_73 : decode cX0_playsBy 73 = .ok (.ireturn, 1) := by decide +kernel
theorem dX0_playsBy_74 : decode cX0_playsBy 74 = .ok (.aload_n 0, 1) := by decide +kernel
theorem dX0_playsBy_75 : decode cX0_playsBy 75 = .ok (.getfield 34, 3) := by decide +kernel
theorem dX0_playsBy_78 : decode cX0_playsBy 78 = .ok (.bipush 10, 2) := by decide +kernel
theorem dX0_playsBy_80 : decode cX0_playsBy 80 = .ok (.irem, 1) := by decide +kernel
theorem dX0_playsBy_81 : decode cX0_playsBy 81 = .ok (.aload_n 0, 1) := by decide +kernel
theorem dX0_playsBy_82 : decode cX0_playsBy 82 = .ok (.getfield 15, 3) := by decide +kernel
theorem dX0_playsBy_85 : decode cX0_playsBy 85 = .ok (.iload_n 2, 1) := by decide +kernel
theorem dX0_playsBy_86 : decode cX0_playsBy 86 = .ok (.iaload, 1) := by decide +kernel
theorem dX0_playsBy_87 : decode cX0_playsBy 87 = .ok (.if_icmp .ne 12, 3) := by decide +kernel
theorem dX0_playsBy_90 : decode cX0_playsBy 90 = .ok (.iload_n 1, 1) := by decide +kernel
theorem dX0_playsBy_91 : decode cX0_playsBy 91 = .ok (.iconst 2, 1) := by decide +kernel
theorem dX0_playsBy_92 : decode cX0_playsBy 92 = .ok (.idiv, 1) := by decide +kernel
theorem dX0_playsBy_93 : decode cX0_playsBy 93 = .ok (.bipush 50, 2) := by decide +kernel
theorem dX0_playsBy_95 : decode cX0_playsBy 95 = .ok (.iadd, 1) := by decide +kernel
theorem dX0_playsBy_96 : decode cX0_playsBy 96 = .ok (.goto 6, 3) := by decide +kernel
theorem dX0_playsBy_99 : decode cX0_playsBy 99 = .ok (.iload_n 1, 1) := by decide +kernel
theorem dX0_playsBy_100 : decode cX0_playsBy 100 = .ok (.iconst 2, 1) := by decide +kernel
theorem dX0_playsBy_101 : decode cX0_playsBy 101 = .ok (.idiv, 1) := by decide +kernel
theorem dX0_playsBy_102 : decode cX0_playsBy 102 = .ok (.ireturn, 1) := by decide +kernel
theorem dX0_playsBy_103 : decode cX0_playsBy 103 = .ok (.iconst 0, 1) := by decide +kernel
theorem dX0_playsBy_104 : decode cX0_playsBy 104 = .ok (.ireturn, 1) := by decide +kernel
theorem dX0_playsBy_105 : decode cX0_playsBy 105 = .ok (.iload_n 1, 1) := by decide +kernel
theorem dX0_playsBy_106 : decode cX0_playsBy 106 = .ok (.ireturn, 1) := by decide +kernel
theorem dX0_throwsBy_0 : decode cX0_throwsBy 0 = .ok (.aload_n 0, 1) := by decide +kernel
theorem dX0_throwsBy_1 : decode cX0_throwsBy 1 = .ok (.getfield 9, 3) := by decide +kernel
theorem dX0_throwsBy_4 : decode cX0_throwsBy 4 = .ok (.iload_n 2, 1) := by decide +kernel
theorem dX0_throwsBy_5 : decode cX0_throwsBy 5 = .ok (.iaload, 1) := by decide +kernel
theorem dX0_throwsBy_6 : decode cX0_throwsBy 6 = .ok (.tableswitch 87 1 4 #[30, 53, 55, 53], 30) := by decide +kernel
theorem dX0_throwsBy_36 : decode cX0_throwsBy 36 = .ok (.iload_n 1, 1) := by decide +kernel
theorem dX0_throwsBy_37 : decode cX0_throwsBy 37 = .ok (.ifCond .eq 20, 3) := by decide +kernel
theorem dX0_throwsBy_40 : decode cX0_throwsBy 40 = .ok (.aload_n 0, 1) := by decide +kernel
theorem dX0_throwsBy_41 : decode cX0_throwsBy 41 = .ok (.getfield 24, 3) := by decide +kernel
theorem dX0_throwsBy_44 : decode cX0_throwsBy 44 = .ok (.iload_n 2, 1) := by decide +kernel
theorem dX0_throwsBy_45 : decode cX0_throwsBy 45 = .ok (.iaload, 1) := by decide +kernel
theorem dX0_throwsBy_46 : decode cX0_throwsBy 46 = .ok (.invokestatic 52, 3) := by decide +kernel
theorem dX0_throwsBy_49 : decode cX0_throwsBy 49 = .ok (.iconst 4, 1) := by decide +kernel
theorem dX0_throwsBy_50 : decode cX0_throwsBy 50 = .ok (.if_icmp .ge 7, 3) := by decide +kernel
theorem dX0_throwsBy_53 : decode cX0_throwsBy 53 = .ok (.iconst 1, 1) := by decide +kernel
theorem dX0_throwsBy_54 : decode cX0_throwsBy 54 = .ok (.goto 4, 3) := by decide +kernel
theorem dX0_throwsBy_57 : decode cX0_throwsBy 57 = .ok (.iconst 0, 1) := by decide +kernel
theorem dX0_throwsBy_58 : decode cX0_throwsBy 58 = .ok (.ireturn, 1) := by decide +kernel
theorem dX0_throwsBy_59 : decode cX0_throwsBy 59 = .ok (.iconst 0, 1) := by decide +kernel
theorem dX0_throwsBy_60 : decode cX0_throwsBy 60 = .ok (.ireturn, 1) := by decide +kernel
theorem dX0_throwsBy_61 : decode cX0_throwsBy 61 = .ok (.iload_n 1, 1) := by decide +kernel
theorem dX0_throwsBy_62 : decode cX0_throwsBy 62 = .ok (.ifCond .eq 16, 3) := by decide +kernel
theorem dX0_throwsBy_65 : decode cX0_throwsBy 65 = .ok (.aload_n 0, 1) := by decide +kernel
theorem dX0_throwsBy_66 : decode cX0_throwsBy 66 = .ok (.getfield 24, 3) := by decide +kernel
theorem dX0_throwsBy_69 : decode cX0_throwsBy 69 = .ok (.iload_n 2, 1) := by decide +kernel
theorem dX0_throwsBy_70 : decode cX0_throwsBy 70 = .ok (.iaload, 1) := by decide +kernel
theorem dX0_throwsBy_71 : decode cX0_throwsBy 71 = .ok (.invokestatic 52, 3) := by decide +kernel
theorem dX0_throwsBy_74 : decode cX0_throwsBy 74 = .ok (.iconst 4, 1) := by decide +kernel
theorem dX0_throwsBy_75 : decode cX0_throwsBy 75 = .ok (.if_icmp .lt 12, 3) := by decide +kernel
theorem dX0_throwsBy_78 : decode cX0_throwsBy 78 = .ok (.aload_n 0, 1) := by decide +kernel
theorem dX0_throwsBy_79 : decode cX0_throwsBy 79 = .ok (.getfield 24, 3) := by decide +kernel
theorem dX0_throwsBy_82 : decode cX0_throwsBy 82 = .ok (.iload_n 3, 1) := by decide +kernel
theorem dX0_throwsBy_83 : decode cX0_throwsBy 83 = .ok (.iaload, 1) := by decide +kernel
theorem dX0_throwsBy_84 : decode cX0_throwsBy 84 = .ok (.ifCond .eq 7, 3) := by decide +kernel
theorem dX0_throwsBy_87 : decode cX0_throwsBy 87 = .ok (.iconst 1, 1) := by decide +kernel
theorem dX0_throwsBy_88 : decode cX0_throwsBy 88 = .ok (.goto 4, 3) := by decide +kernel
theorem dX0_throwsBy_91 : decode cX0_throwsBy 91 = .ok (.iconst 0, 1) := by decide +kernel
theorem dX0_throwsBy_92 : decode cX0_throwsBy 92 = .ok (.ireturn, 1) := by decide +kernel
theorem dX0_throwsBy_93 : decode cX0_throwsBy 93 = .ok (.iload_n 1, 1) := by decide +kernel
theorem dX0_throwsBy_94 : decode cX0_throwsBy 94 = .ok (.ireturn, 1) := by decide +kernel
theorem dX0_tiresBy_0 : decode cX0_tiresBy 0 = .ok (.aload_n 0, 1) := by decide +kernel
theorem dX0_tiresBy_1 : decode cX0_tiresBy 1 = .ok (.getfield 9, 3) := by decide +kernel
theorem dX0_tiresBy_4 : decode cX0_tiresBy 4 = .ok (.iload_n 2, 1) := by decide +kernel
theorem dX0_tiresBy_5 : decode cX0_tiresBy 5 = .ok (.iaload, 1) := by decide +kernel
theorem dX0_tiresBy_6 : decode cX0_tiresBy 6 = .ok (.tableswitch 66 1 5 #[34, 44, 47, 59, 64], 34) := by decide +kernel
theorem dX0_tiresBy_40 : decode cX0_tiresBy 40 = .ok (.iload_n 3, 1) := by decide +kernel
theorem dX0_tiresBy_41 : decode cX0_tiresBy 41 = .ok (.ifCond .eq 7, 3) := by decide +kernel
theorem dX0_tiresBy_44 : decode cX0_tiresBy 44 = .ok (.iconst 0, 1) := by decide +kernel
theorem dX0_tiresBy_45 : decode cX0_tiresBy 45 = .ok (.goto 4, 3) := by decide +kernel
theorem dX0_tiresBy_48 : decode cX0_tiresBy 48 = .ok (.iload_n 1, 1) := by decide +kernel
theorem dX0_tiresBy_49 : decode cX0_tiresBy 49 = .ok (.ireturn, 1) := by decide +kernel
theorem dX0_tiresBy_50 : decode cX0_tiresBy 50 = .ok (.iload_n 1, 1) := by decide +kernel
theorem dX0_tiresBy_51 : decode cX0_tiresBy 51 = .ok (.ineg, 1) := by decide +kernel
theorem dX0_tiresBy_52 : decode cX0_tiresBy 52 = .ok (.ireturn, 1) := by decide +kernel
theorem dX0_tiresBy_53 : decode cX0_tiresBy 53 = .ok (.iload_n 3, 1) := by decide +kernel
theorem dX0_tiresBy_54 : decode cX0_tiresBy 54 = .ok (.ifCond .eq 7, 3) := by decide +kernel
theorem dX0_tiresBy_57 : decode cX0_tiresBy 57 = .ok (.iconst 1, 1) := by decide +kernel
theorem dX0_tiresBy_58 : decode cX0_tiresBy 58 = .ok (.goto 6, 3) := by decide +kernel
theorem dX0_tiresBy_61 : decode cX0_tiresBy 61 = .ok (.iload_n 1, 1) := by decide +kernel
theorem dX0_tiresBy_62 : decode cX0_tiresBy 62 = .ok (.iconst 1, 1) := by decide +kernel
theorem dX0_tiresBy_63 : decode cX0_tiresBy 63 = .ok (.iadd, 1) := by decide +kernel
theorem dX0_tiresBy_64 : decode cX0_tiresBy 64 = .ok (.ireturn, 1) := by decide +kernel
theorem dX0_tiresBy_65 : decode cX0_tiresBy 65 = .ok (.iload_n 1, 1) := by decide +kernel
theorem dX0_tiresBy_66 : decode cX0_tiresBy 66 = .ok (.ineg, 1) := by decide +kernel
theorem dX0_tiresBy_67 : decode cX0_tiresBy 67 = .ok (.iconst 3, 1) := by decide +kernel
theorem dX0_tiresBy_68 : decode cX0_tiresBy 68 = .ok (.isub, 1) := by decide +kernel
theorem dX0_tiresBy_69 : decode cX0_tiresBy 69 = .ok (.ireturn, 1) := by decide +kernel
theorem dX0_tiresBy_70 : decode cX0_tiresBy 70 = .ok (.iconst 0, 1) := by decide +kernel
theorem dX0_tiresBy_71 : decode cX0_tiresBy 71 = .ok (.ireturn, 1) := by decide +kernel
theorem dX0_tiresBy_72 : decode cX0_tiresBy 72 = .ok (.iload_n 1, 1) := by decide +kernel
theorem dX0_tiresBy_73 : decode cX0_tiresBy 73 = .ok (.ireturn, 1) := by decide +kernel
theorem dX0_power_0 : decode cX0_power 0 = .ok (.aload_n 0, 1) := by decide +kernel
theorem dX0_power_1 : decode cX0_power 1 = .ok (.iload_n 1, 1) := by decide +kernel
theorem dX0_power_2 : decode cX0_power 2 = .ok (.iload_n 2, 1) := by decide +kernel
theorem dX0_power_3 : decode cX0_power 3 = .ok (.invokevirtual 66, 3) := by decide +kernel
theorem dX0_power_6 : decode cX0_power 6 = .ok (.ifCond .ne 5, 3) := by decide +kernel
theorem dX0_power_9 : decode cX0_power 9 = .ok (.iconst 0, 1) := by decide +kernel
theorem dX0_power_10 : decode cX0_power 10 = .ok (.ireturn, 1) := by decide +kernel
theorem dX0_power_11 : decode cX0_power 11 = .ok (.aload_n 0, 1) := by decide +kernel
theorem dX0_power_12 : decode cX0_power 12 = .ok (.iload_n 1, 1) := by decide +kernel
theorem dX0_power_13 : decode cX0_power 13 = .ok (.iload_n 2, 1) := by decide +kernel
theorem dX0_power_14 : decode cX0_power 14 = .ok (.invokevirtual 70, 3) := by decide +kernel
theorem dX0_power_17 : decode cX0_power 17 = .ok (.aload_n 0, 1) := by decide +kernel
theorem dX0_power_18 : decode cX0_power 18 = .ok (.aload_n 0, 1) := by decide +kernel
theorem dX0_power_19 : decode cX0_power 19 = .ok (.getfield 40, 3) := by decide +kernel
theorem dX0_power_22 : decode cX0_power 22 = .ok (.aload_n 0, 1) := by decide +kernel
theorem dX0_power_23 : decode cX0_power 23 = .ok (.getfield 37, 3) := by decide +kernel
theorem dX0_power_26 : decode cX0_power 26 = .ok (.iconst 1, 1) := by decide +kernel
theorem dX0_power_27 : decode cX0_power 27 = .ok (.invokevirtual 74, 3) := by decide +kernel
theorem dX0_power_30 : decode cX0_power 30 = .ok (.ifCond .eq 7, 3) := by decide +kernel
theorem dX0_power_33 : decode cX0_power 33 = .ok (.iconst 1, 1) := by decide +kernel
theorem dX0_power_34 : decode cX0_power 34 = .ok (.goto 4, 3) := by decide +kernel
theorem dX0_power_37 : decode cX0_power 37 = .ok (.iconst 0, 1) := by decide +kernel
theorem dX0_power_38 : decode cX0_power 38 = .ok (.iload_n 1, 1) := by decide +kernel
theorem dX0_power_39 : decode cX0_power 39 = .ok (.iload_n 2, 1) := by decide +kernel
theorem dX0_power_40 : decode cX0_power 40 = .ok (.invokevirtual 78, 3) := by decide +kernel
theorem dX0_power_43 : decode cX0_power 43 = .ok (.ifCond .eq 5, 3) := by decide +kernel
theorem dX0_power_46 : decode cX0_power 46 = .ok (.iconst (-1), 1) := by decide +kernel
theorem dX0_power_47 : decode cX0_power 47 = .ok (.ireturn, 1) := by decide +kernel
theorem dX0_power_48 : decode cX0_power 48 = .ok (.aload_n 0, 1) := by decide +kernel
theorem dX0_power_49 : decode cX0_power 49 = .ok (.getfield 40, 3) := by decide +kernel
theorem dX0_power_52 : decode cX0_power 52 = .ok (.aload_n 0, 1) := by decide +kernel
theorem dX0_power_53 : decode cX0_power 53 = .ok (.getfield 37, 3) := by decide +kernel
theorem dX0_power_56 : decode cX0_power 56 = .ok (.iconst 0, 1) := by decide +kernel
theorem dX0_power_57 : decode cX0_power 57 = .ok (.invokevirtual 74, 3) := by decide +kernel
theorem dX0_power_60 : decode cX0_power 60 = .ok (.iconst 0, 1) := by decide +kernel
theorem dX0_power_61 : decode cX0_power 61 = .ok (.bipush 99, 2) := by decide +kernel
theorem dX0_power_63 : decode cX0_power 63 = .ok (.invokestatic 82, 3) := by decide +kernel
theorem dX0_power_66 : decode cX0_power 66 = .ok (.istore_n 3, 1) := by decide +kernel
theorem dX0_power_67 : decode cX0_power 67 = .ok (.aload_n 0, 1) := by decide +kernel
theorem dX0_power_68 : decode cX0_power 68 = .ok (.iload_n 3, 1) := by decide +kernel
theorem dX0_power_69 : decode cX0_power 69 = .ok (.iload_n 1, 1) := by decide +kernel
theorem dX0_power_70 : decode cX0_power 70 = .ok (.invokevirtual 86, 3) := by decide +kernel
theorem dX0_power_73 : decode cX0_power 73 = .ok (.iconst 0, 1) := by decide +kernel
theorem dX0_power_74 : decode cX0_power 74 = .ok (.sipush 999, 3) := by decide +kernel
theorem dX0_power_77 : decode cX0_power 77 = .ok (.invokestatic 82, 3) := by decide +kernel
theorem dX0_power_80 : decode cX0_power 80 = .ok (.ireturn, 1) := by decide +kernel
theorem dX0_tiring_0 : decode cX0_tiring 0 = .ok (.aload_n 0, 1) := by decide +kernel
theorem dX0_tiring_1 : decode cX0_tiring 1 = .ok (.iload_n 1, 1) := by decide +kernel
theorem dX0_tiring_2 : decode cX0_tiring 2 = .ok (.iload_n 2, 1) := by decide +kernel
theorem dX0_tiring_3 : decode cX0_tiring 3 = .ok (.invokevirtual 66, 3) := by decide +kernel
theorem dX0_tiring_6 : decode cX0_tiring 6 = .ok (.ifCond .ne 5, 3) := by decide +kernel
theorem dX0_tiring_9 : decode cX0_tiring 9 = .ok (.iconst 0, 1) := by decide +kernel
theorem dX0_tiring_10 : decode cX0_tiring 10 = .ok (.ireturn, 1) := by decide +kernel
theorem dX0_tiring_11 : decode cX0_tiring 11 = .ok (.aload_n 0, 1) := by decide +kernel
theorem dX0_tiring_12 : decode cX0_tiring 12 = .ok (.iload_n 1, 1) := by decide +kernel
theorem dX0_tiring_13 : decode cX0_tiring 13 = .ok (.iload_n 2, 1) := by decide +kernel
theorem dX0_tiring_14 : decode cX0_tiring 14 = .ok (.invokevirtual 70, 3) := by decide +kernel
theorem dX0_tiring_17 : decode cX0_tiring 17 = .ok (.aload_n 0, 1) := by decide +kernel
theorem dX0_tiring_18 : decode cX0_tiring 18 = .ok (.getfield 40, 3) := by decide +kernel
theorem dX0_tiring_21 : decode cX0_tiring 21 = .ok (.aload_n 0, 1) := by decide +kernel
theorem dX0_tiring_22 : decode cX0_tiring 22 = .ok (.getfield 37, 3) := by decide +kernel
theorem dX0_tiring_25 : decode cX0_tiring 25 = .ok (.iconst 2, 1) := by decide +kernel
theorem dX0_tiring_26 : decode cX0_tiring 26 = .ok (.invokevirtual 74, 3) := by decide +kernel
theorem dX0_tiring_29 : decode cX0_tiring 29 = .ok (.bipush (-9), 2) := by decide +kernel
theorem dX0_tiring_31 : decode cX0_tiring 31 = .ok (.bipush 9, 2) := by decide +kernel
theorem dX0_tiring_33 : decode cX0_tiring 33 = .ok (.invokestatic 82, 3) := by decide +kernel
theorem dX0_tiring_36 : decode cX0_tiring 36 = .ok (.istore 4, 2) := by decide +kernel
theorem dX0_tiring_38 : decode cX0_tiring 38 = .ok (.aload_n 0, 1) := by decide +kernel
theorem dX0_tiring_39 : decode cX0_tiring 39 = .ok (.iload 4, 2) := by decide +kernel
theorem dX0_tiring_41 : decode cX0_tiring 41 = .ok (.iload_n 1, 1) := by decide +kernel
theorem dX0_tiring_42 : decode cX0_tiring 42 = .ok (.iload_n 3, 1) := by decide +kernel
theorem dX0_tiring_43 : decode cX0_tiring 43 = .ok (.invokevirtual 89, 3) := by decide +kernel
theorem dX0_tiring_46 : decode cX0_tiring 46 = .ok (.bipush (-99), 2) := by decide +kernel
theorem dX0_tiring_48 : decode cX0_tiring 48 = .ok (.bipush 99, 2) := by decide +kernel
theorem dX0_tiring_50 : decode cX0_tiring 50 = .ok (.invokestatic 82, 3) := by decide +kernel
theorem dX0_tiring_53 : decode cX0_tiring 53 = .ok (.ireturn, 1) := by decide +kernel
theorem dX0_winner_0 : decode cX0_winner 0 = .ok (.aload_n 0, 1) := by decide +kernel
theorem dX0_winner_1 : decode cX0_winner 1 = .ok (.iload_n 1, 1) := by decide +kernel
theorem dX0_winner_2 : decode cX0_winner 2 = .ok (.iload_n 2, 1) := by decide +kernel
theorem dX0_winner_3 : decode cX0_winner 3 = .ok (.invokevirtual 93, 3) := by decide +kernel
theorem dX0_winner_6 : decode cX0_winner 6 = .ok (.aload_n 0, 1) := by decide +kernel
theorem dX0_winner_7 : decode cX0_winner 7 = .ok (.iload_n 2, 1) := by decide +kernel
theorem dX0_winner_8 : decode cX0_winner 8 = .ok (.iload_n 1, 1) := by decide +kernel
theorem dX0_winner_9 : decode cX0_winner 9 = .ok (.invokevirtual 93, 3) := by decide +kernel
theorem dX0_winner_12 : decode cX0_winner 12 = .ok (.isub, 1) := by decide +kernel
theorem dX0_winner_13 : decode cX0_winner 13 = .ok (.istore_n 3, 1) := by decide +kernel
theorem dX0_winner_14 : decode cX0_winner 14 = .ok (.iload_n 3, 1) := by decide +kernel
theorem dX0_winner_15 : decode cX0_winner 15 = .ok (.ifCond .ne 7, 3) := by decide +kernel
theorem dX0_winner_18 : decode cX0_winner 18 = .ok (.iconst (-1), 1) := by decide +kernel
theorem dX0_winner_19 : decode cX0_winner 19 = .ok (.goto 12, 3) := by decide +kernel
theorem dX0_winner_22 : decode cX0_winner 22 = .ok (.iload_n 3, 1) := by decide +kernel
theorem dX0_winner_23 : decode cX0_winner 23 = .ok (.ifCond .le 7, 3) := by decide +kernel
theorem dX0_winner_26 : decode cX0_winner 26 = .ok (.iload_n 1, 1) := by decide +kernel
theorem dX0_winner_27 : decode cX0_winner 27 = .ok (.goto 4, 3) := by decide +kernel
theorem dX0_winner_30 : decode cX0_winner 30 = .ok (.iload_n 2, 1) := by decide +kernel
theorem dX0_winner_31 : decode cX0_winner 31 = .ok (.ireturn, 1) := by decide +kernel
theorem dX0_meet_0 : decode cX0_meet 0 = .ok (.aload_n 0, 1) := by decide +kernel
theorem dX0_meet_1 : decode cX0_meet 1 = .ok (.iload_n 1, 1) := by decide +kernel
theorem dX0_meet_2 : decode cX0_meet 2 = .ok (.iload_n 2, 1) := by decide +kernel
theorem dX0_meet_3 : decode cX0_meet 3 = .ok (.invokevirtual 66, 3) := by decide +kernel
theorem dX0_meet_6 : decode cX0_meet 6 = .ok (.ifCond .ne 5, 3) := by decide +kernel
theorem dX0_meet_9 : decode cX0_meet 9 = .ok (.iconst (-1), 1) := by decide +kernel
theorem dX0_meet_10 : decode cX0_meet 10 = .ok (.ireturn, 1) := by decide +kernel
theorem dX0_meet_11 : decode cX0_meet 11 = .ok (.aload_n 0, 1) := by decide +kernel
theorem dX0_meet_12 : decode cX0_meet 12 = .ok (.iload_n 1, 1) := by decide +kernel
theorem dX0_meet_13 : decode cX0_meet 13 = .ok (.iload_n 2, 1) := by decide +kernel
theorem dX0_meet_14 : decode cX0_meet 14 = .ok (.invokevirtual 96, 3) := by decide +kernel
theorem dX0_meet_17 : decode cX0_meet 17 = .ok (.istore_n 3, 1) := by decide +kernel
theorem dX0_meet_18 : decode cX0_meet 18 = .ok (.aload_n 0, 1) := by decide +kernel
theorem dX0_meet_19 : decode cX0_meet 19 = .ok (.iload_n 1, 1) := by decide +kernel
theorem dX0_meet_20 : decode cX0_meet 20 = .ok (.iload_n 2, 1) := by decide +kernel
theorem dX0_meet_21 : decode cX0_meet 21 = .ok (.iload_n 3, 1) := by decide +kernel
theorem dX0_meet_22 : decode cX0_meet 22 = .ok (.iload_n 1, 1) := by decide +kernel
theorem dX0_meet_23 : decode cX0_meet 23 = .ok (.if_icmp .ne 7, 3) := by decide +kernel
theorem dX0_meet_26 : decode cX0_meet 26 = .ok (.iconst 1, 1) := by decide +kernel
theorem dX0_meet_27 : decode cX0_meet 27 = .ok (.goto 4, 3) := by decide +kernel
theorem dX0_meet_30 : decode cX0_meet 30 = .ok (.iconst 0, 1) := by decide +kernel
theorem dX0_meet_31 : decode cX0_meet 31 = .ok (.invokevirtual 99, 3) := by decide +kernel
theorem dX0_meet_34 : decode cX0_meet 34 = .ok (.istore 4, 2) := by decide +kernel
theorem dX0_meet_36 : decode cX0_meet 36 = .ok (.aload_n 0, 1) := by decide +kernel
theorem dX0_meet_37 : decode cX0_meet 37 = .ok (.iload_n 2, 1) := by decide +kernel
theorem dX0_meet_38 : decode cX0_meet 38 = .ok (.iload_n 1, 1) := by decide +kernel
theorem dX0_meet_39 : decode cX0_meet 39 = .ok (.iload_n 3, 1) := by decide +kernel
theorem dX0_meet_40 : decode cX0_meet 40 = .ok (.iload_n 2, 1) := by decide +kernel
theorem dX0_meet_41 : decode cX0_meet 41 = .ok (.if_icmp .ne 7, 3) := by decide +kernel
theorem dX0_meet_44 : decode cX0_meet 44 = .ok (.iconst 1, 1) := by decide +kernel
theorem dX0_meet_45 : decode cX0_meet 45 = .ok (.goto 4, 3) := by decide +kernel
theorem dX0_meet_48 : decode cX0_meet 48 = .ok (.iconst 0, 1) := by decide +kernel
theorem dX0_meet_49 : decode cX0_meet 49 = .ok (.invokevirtual 99, 3) := by decide +kernel
theorem dX0_meet_52 : decode cX0_meet 52 = .ok (.istore 5, 2) := by decide +kernel
theorem dX0_meet_54 : decode cX0_meet 54 = .ok (.iload_n 3, 1) := by decide +kernel
theorem dX0_meet_55 : decode cX0_meet 55 = .ok (.iconst (-1), 1) := by decide +kernel
theorem dX0_meet_56 : decode cX0_meet 56 = .ok (.if_icmp .ne 42, 3) := by decide +kernel
theorem dX0_meet_59 : decode cX0_meet 59 = .ok (.aload_n 0, 1) := by decide +kernel
theorem dX0_meet_60 : decode cX0_meet 60 = .ok (.dup, 1) := by decide +kernel
theorem dX0_meet_61 : decode cX0_meet 61 = .ok (.getfield 27, 3) := by decide +kernel
theorem dX0_meet_64 : decode cX0_meet 64 = .ok (.aload_n 0, 1) := by decide +kernel
theorem dX0_meet_65 : decode cX0_meet 65 = .ok (.getfield 24, 3) := by decide +kernel
theorem dX0_meet_68 : decode cX0_meet 68 = .ok (.iload_n 1, 1) := by decide +kernel
theorem dX0_meet_69 : decode cX0_meet 69 = .ok (.iaload, 1) := by decide +kernel
theorem dX0_meet_70 : decode cX0_meet 70 = .ok (.aload_n 0, 1) := by decide +kernel
theorem dX0_meet_71 : decode cX0_meet 71 = .ok (.getfield 24, 3) := by decide +kernel
theorem dX0_meet_74 : decode cX0_meet 74 = .ok (.iload_n 2, 1) := by decide +kernel
theorem dX0_meet_75 : decode cX0_meet 75 = .ok (.iaload, 1) := by decide +kernel
theorem dX0_meet_76 : decode cX0_meet 76 = .ok (.ior, 1) := by decide +kernel
theorem dX0_meet_77 : decode cX0_meet 77 = .ok (.ior, 1) := by decide +kernel
theorem dX0_meet_78 : decode cX0_meet 78 = .ok (.putfield 27, 3) := by decide +kernel
theorem dX0_meet_81 : decode cX0_meet 81 = .ok (.aload_n 0, 1) := by decide +kernel
theorem dX0_meet_82 : decode cX0_meet 82 = .ok (.getfield 24, 3) := by decide +kernel
theorem dX0_meet_85 : decode cX0_meet 85 = .ok (.iload_n 1, 1) := by decide +kernel
theorem dX0_meet_86 : decode cX0_meet 86 = .ok (.iconst 0, 1) := by decide +kernel
theorem dX0_meet_87 : decode cX0_meet 87 = .ok (.iastore, 1) := by decide +kernel
theorem dX0_meet_88 : decode cX0_meet 88 = .ok (.aload_n 0, 1) := by decide +kernel
theorem dX0_meet_89 : decode cX0_meet 89 = .ok (.getfield 24, 3) := by decide +kernel
theorem dX0_meet_92 : decode cX0_meet 92 = .ok (.iload_n 2, 1) := by decide +kernel
theorem dX0_meet_93 : decode cX0_meet 93 = .ok (.iconst 0, 1) := by decide +kernel
theorem dX0_meet_94 : decode cX0_meet 94 = .ok (.iastore, 1) := by decide +kernel
theorem dX0_meet_95 : decode cX0_meet 95 = .ok (.goto 23, 3) := by decide +kernel
theorem dX0_meet_98 : decode cX0_meet 98 = .ok (.iload_n 3, 1) := by decide +kernel
theorem dX0_meet_99 : decode cX0_meet 99 = .ok (.iload_n 1, 1) := by decide +kernel
theorem dX0_meet_100 : decode cX0_meet 100 = .ok (.if_icmp .ne 12, 3) := by decide +kernel
theorem dX0_meet_103 : decode cX0_meet 103 = .ok (.aload_n 0, 1) := by decide +kernel
theorem dX0_meet_104 : decode cX0_meet 104 = .ok (.iload_n 2, 1) := by decide +kernel
theorem dX0_meet_105 : decode cX0_meet 105 = .ok (.iload_n 1, 1) := by decide +kernel
theorem dX0_meet_106 : decode cX0_meet 106 = .ok (.invokevirtual 102, 3) := by decide +kernel
theorem dX0_meet_109 : decode cX0_meet 109 = .ok (.goto 9, 3) := by decide +kernel
theorem dX0_meet_112 : decode cX0_meet 112 = .ok (.aload_n 0, 1) := by decide +kernel
theorem dX0_meet_113 : decode cX0_meet 113 = .ok (.iload_n 1, 1) := by decide +kernel
theorem dX0_meet_114 : decode cX0_meet 114 = .ok (.iload_n 2, 1) := by decide +kernel
theorem dX0_meet_115 : decode cX0_meet 115 = .ok (.invokevirtual 102, 3) := by decide +kernel
theorem dX0_meet_118 : decode cX0_meet 118 = .ok (.aload_n 0, 1) := by decide +kernel
theorem dX0_meet_119 : decode cX0_meet 119 = .ok (.getfield 18, 3) := by decide +kernel
theorem dX0_meet_122 : decode cX0_meet 122 = .ok (.iload_n 1, 1) := by decide +kernel
theorem dX0_meet_123 : decode cX0_meet 123 = .ok (.aload_n 0, 1) := by decide +kernel
theorem dX0_meet_124 : decode cX0_meet 124 = .ok (.getfield 18, 3) := by decide +kernel
theorem dX0_meet_127 : decode cX0_meet 127 = .ok (.iload_n 1, 1) := by decide +kernel
theorem dX0_meet_128 : decode cX0_meet 128 = .ok (.iaload, 1) := by decide +kernel
theorem dX0_meet_129 : decode cX0_meet 129 = .ok (.iload 4, 2) := by decide +kernel
theorem dX0_meet_131 : decode cX0_meet 131 = .ok (.isub, 1) := by decide +kernel
theorem dX0_meet_132 : decode cX0_meet 132 = .ok (.iconst 0, 1) := by decide +kernel
theorem dX0_meet_133 : decode cX0_meet 133 = .ok (.bipush 99, 2) := by decide +kernel
theorem dX0_meet_135 : decode cX0_meet 135 = .ok (.invokestatic 82, 3) := by decide +kernel
theorem dX0_meet_138 : decode cX0_meet 138 = .ok (.iastore, 1) := by decide +kernel
theorem dX0_meet_139 : decode cX0_meet 139 = .ok (.aload_n 0, 1) := by decide +kernel
theorem dX0_meet_140 : decode cX0_meet 140 = .ok (.getfield 18, 3) := by decide +kernel
theorem dX0_meet_143 : decode cX0_meet 143 = .ok (.iload_n 2, 1) := by decide +kernel
theorem dX0_meet_144 : decode cX0_meet 144 = .ok (.aload_n 0, 1) := by decide +kernel
theorem dX0_meet_145 : decode cX0_meet 145 = .ok (.getfield 18, 3) := by decide +kernel
theorem dX0_meet_148 : decode cX0_meet 148 = .ok (.iload_n 2, 1) := by decide +kernel
theorem dX0_meet_149 : decode cX0_meet 149 = .ok (.iaload, 1) := by decide +kernel
theorem dX0_meet_150 : decode cX0_meet 150 = .ok (.iload 5, 2) := by decide +kernel
theorem dX0_meet_152 : decode cX0_meet 152 = .ok (.isub, 1) := by decide +kernel
theorem dX0_meet_153 : decode cX0_meet 153 = .ok (.iconst 0, 1) := by decide +kernel
theorem dX0_meet_154 : decode cX0_meet 154 = .ok (.bipush 99, 2) := by decide +kernel
theorem dX0_meet_156 : decode cX0_meet 156 = .ok (.invokestatic 82, 3) := by decide +kernel
theorem dX0_meet_159 : decode cX0_meet 159 = .ok (.iastore, 1) := by decide +kernel
theorem dX0_meet_160 : decode cX0_meet 160 = .ok (.aload_n 0, 1) := by decide +kernel
theorem dX0_meet_161 : decode cX0_meet 161 = .ok (.dup, 1) := by decide +kernel
theorem dX0_meet_162 : decode cX0_meet 162 = .ok (.getfield 34, 3) := by decide +kernel
theorem dX0_meet_165 : decode cX0_meet 165 = .ok (.iconst 1, 1) := by decide +kernel
theorem dX0_meet_166 : decode cX0_meet 166 = .ok (.iadd, 1) := by decide +kernel
theorem dX0_meet_167 : decode cX0_meet 167 = .ok (.putfield 34, 3) := by decide +kernel
theorem dX0_meet_170 : decode cX0_meet 170 = .ok (.iload_n 3, 1) := by decide +kernel
theorem dX0_meet_171 : decode cX0_meet 171 = .ok (.ireturn, 1) := by decide +kernel
theorem dX0_loses_0 : decode cX0_loses 0 = .ok (.aload_n 0, 1) := by decide +kernel
theorem dX0_loses_1 : decode cX0_loses 1 = .ok (.getfield 24, 3) := by decide +kernel
theorem dX0_loses_4 : decode cX0_loses 4 = .ok (.iload_n 1, 1) := by decide +kernel
theorem dX0_loses_5 : decode cX0_loses 5 = .ok (.dup2, 1) := by decide +kernel
theorem dX0_loses_6 : decode cX0_loses 6 = .ok (.iaload, 1) := by decide +kernel
theorem dX0_loses_7 : decode cX0_loses 7 = .ok (.aload_n 0, 1) := by decide +kernel
theorem dX0_loses_8 : decode cX0_loses 8 = .ok (.getfield 24, 3) := by decide +kernel
theorem dX0_loses_11 : decode cX0_loses 11 = .ok (.iload_n 2, 1) := by decide +kernel
theorem dX0_loses_12 : decode cX0_loses 12 = .ok (.iaload, 1) := by decide +kernel
theorem dX0_loses_13 : decode cX0_loses 13 = .ok (.aload_n 0, 1) := by decide +kernel
theorem dX0_loses_14 : decode cX0_loses 14 = .ok (.getfield 27, 3) := by decide +kernel
theorem dX0_loses_17 : decode cX0_loses 17 = .ok (.ior, 1) := by decide +kernel
theorem dX0_loses_18 : decode cX0_loses 18 = .ok (.ior, 1) := by decide +kernel
theorem dX0_loses_19 : decode cX0_loses 19 = .ok (.iastore, 1) := by decide +kernel
theorem dX0_loses_20 : decode cX0_loses 20 = .ok (.aload_n 0, 1) := by decide +kernel
theorem dX0_loses_21 : decode cX0_loses 21 = .ok (.getfield 24, 3) := by decide +kernel
theorem dX0_loses_24 : decode cX0_loses 24 = .ok (.iload_n 2, 1) := by decide +kernel
theorem dX0_loses_25 : decode cX0_loses 25 = .ok (.iconst 0, 1) := by decide +kernel
theorem dX0_loses_26 : decode cX0_loses 26 = .ok (.iastore, 1) := by decide +kernel
theorem dX0_loses_27 : decode cX0_loses 27 = .ok (.aload_n 0, 1) := by decide +kernel
theorem dX0_loses_28 : decode cX0_loses 28 = .ok (.iconst 0, 1) := by decide +kernel
theorem dX0_loses_29 : decode cX0_loses 29 = .ok (.putfield 27, 3) := by decide +kernel
theorem dX0_loses_32 : decode cX0_loses 32 = .ok (.aload_n 0, 1) := by decide +kernel
theorem dX0_loses_33 : decode cX0_loses 33 = .ok (.getfield 21, 3) := by decide +kernel
theorem dX0_loses_36 : decode cX0_loses 36 = .ok (.iload_n 2, 1) := by decide +kernel
theorem dX0_loses_37 : decode cX0_loses 37 = .ok (.aload_n 0, 1) := by decide +kernel
theorem dX0_loses_38 : decode cX0_loses 38 = .ok (.getfield 21, 3) := by decide +kernel
theorem dX0_loses_41 : decode cX0_loses 41 = .ok (.iload_n 2, 1) := by decide +kernel
theorem dX0_loses_42 : decode cX0_loses 42 = .ok (.iaload, 1) := by decide +kernel
theorem dX0_loses_43 : decode cX0_loses 43 = .ok (.iconst 1, 1) := by decide +kernel
theorem dX0_loses_44 : decode cX0_loses 44 = .ok (.iadd, 1) := by decide +kernel
theorem dX0_loses_45 : decode cX0_loses 45 = .ok (.iconst 0, 1) := by decide +kernel
theorem dX0_loses_46 : decode cX0_loses 46 = .ok (.sipush 999, 3) := by decide +kernel
theorem dX0_loses_49 : decode cX0_loses 49 = .ok (.invokestatic 82, 3) := by decide +kernel
theorem dX0_loses_52 : decode cX0_loses 52 = .ok (.iastore, 1) := by decide +kernel
theorem dX0_loses_53 : decode cX0_loses 53 = .ok (.return_, 1) := by decide +kernel
theorem dX1_init_0 : decode cX1_init 0 = .ok (.aload_n 0, 1) := by decide +kernel
theorem dX1_init_1 : decode cX1_init 1 = .ok (.invokespecial 3, 3) := by decide +kernel
theorem dX1_init_4 : decode cX1_init 4 = .ok (.aload_n 0, 1) := by decide +kernel
theorem dX1_init_5 : decode cX1_init 5 = .ok (.sipush 160, 3) := by decide +kernel
theorem dX1_init_8 : decode cX1_init 8 = .ok (.newarray .int, 2) := by decide +kernel
theorem dX1_init_10 : decode cX1_init 10 = .ok (.putfield 9, 3) := by decide +kernel
theorem dX1_init_13 : decode cX1_init 13 = .ok (.aload_n 0, 1) := by decide +kernel
theorem dX1_init_14 : decode cX1_init 14 = .ok (.iconst 0, 1) := by decide +kernel
theorem dX1_init_15 : decode cX1_init 15 = .ok (.putfield 15, 3) := by decide +kernel
theorem dX1_init_18 : decode cX1_init 18 = .ok (.aload_n 0, 1) := by decide +kernel
theorem dX1_init_19 : decode cX1_init 19 = .ok (.iconst (-1), 1) := by decide +kernel
theorem dX1_init_20 : decode cX1_init 20 = .ok (.putfield 19, 3) := by decide +kernel
theorem dX1_init_23 : decode cX1_init 23 = .ok (.aload_n 0, 1) := by decide +kernel
theorem dX1_init_24 : decode cX1_init 24 = .ok (.sipush 160, 3) := by decide +kernel
theorem dX1_init_27 : decode cX1_init 27 = .ok (.newarray .int, 2) := by decide +kernel
theorem dX1_init_29 : decode cX1_init 29 = .ok (.putfield 22, 3) := by decide +kernel
theorem dX1_init_32 : decode cX1_init 32 = .ok (.aload_n 0, 1) := by decide +kernel
theorem dX1_init_33 : decode cX1_init 33 = .ok (.iconst 0, 1) := by decide +kernel
theorem dX1_init_34 : decode cX1_init 34 = .ok (.putfield 25, 3) := by decide +kernel
theorem dX1_init_37 : decode cX1_init 37 = .ok (.aload_n 0, 1) := by decide +kernel
theorem dX1_init_38 : decode cX1_init 38 = .ok (.iconst 0, 1) := by decide +kernel
theorem dX1_init_39 : decode cX1_init 39 = .ok (.putfield 28, 3) := by decide +kernel
theorem dX1_init_42 : decode cX1_init 42 = .ok (.aload_n 0, 1) := by decide +kernel
theorem dX1_init_43 : decode cX1_init 43 = .ok (.bipush 9, 2) := by decide +kernel
theorem dX1_init_45 : decode cX1_init 45 = .ok (.putfield 31, 3) := by decide +kernel
theorem dX1_init_48 : decode cX1_init 48 = .ok (.aload_n 0, 1) := by decide +kernel
theorem dX1_init_49 : decode cX1_init 49 = .ok (.iconst 0, 1) := by decide +kernel
theorem dX1_init_50 : decode cX1_init 50 = .ok (.putfield 34, 3) := by decide +kernel
theorem dX1_init_53 : decode cX1_init 53 = .ok (.aload_n 0, 1) := by decide +kernel
theorem dX1_init_54 : decode cX1_init 54 = .ok (.iconst 0, 1) := by decide +kernel
theorem dX1_init_55 : decode cX1_init 55 = .ok (.putfield 37, 3) := by decide +kernel
theorem dX1_init_58 : decode cX1_init 58 = .ok (.return_, 1) := by decide +kernel
theorem dX1_append_0 : decode cX1_append 0 = .ok (.aload_n 0, 1) := by decide +kernel
theorem dX1_append_1 : decode cX1_append 1 = .ok (.getfield 15, 3) := by decide +kernel
theorem dX1_append_4 : decode cX1_append 4 = .ok (.ifCond .lt 13, 3) := by decide +kernel
theorem dX1_append_7 : decode cX1_append 7 = .ok (.aload_n 0, 1) := by decide +kernel
theorem dX1_append_8 : decode cX1_append 8 = .ok (.getfield 15, 3) := by decide +kernel
theorem dX1_append_11 : decode cX1_append 11 = .ok (.sipush 160, 3) := by decide +kernel
theorem dX1_append_14 : decode cX1_append 14 = .ok (.if_icmp .lt 5, 3) := by decide +kernel
theorem dX1_append_17 : decode cX1_append 17 = .ok (.iconst 0, 1) := by decide +kernel
theorem dX1_append_18 : decode cX1_append 18 = .ok (.ireturn, 1) := by decide +kernel
theorem dX1_append_19 : decode cX1_append 19 = .ok (.aload_n 0, 1) := by decide +kernel
theorem dX1_append_20 : decode cX1_append 20 = .ok (.getfield 9, 3) := by decide +kernel
theorem dX1_append_23 : decode cX1_append 23 = .ok (.aload_n 0, 1) := by decide +kernel
theorem dX1_append_24 : decode cX1_append 24 = .ok (.getfield 15, 3) := by decide +kernel
theorem dX1_append_27 : decode cX1_append 27 = .ok (.iload_n 1, 1) := by decide +kernel
theorem dX1_append_28 : decode cX1_append 28 = .ok (.iastore, 1) := by decide +kernel
theorem dX1_append_29 : decode cX1_append 29 = .ok (.aload_n 0, 1) := by decide +kernel
theorem dX1_append_30 : decode cX1_append 30 = .ok (.dup, 1) := by decide +kernel
theorem dX1_append_31 : decode cX1_append 31 = .ok (.getfield 15, 3) := by decide +kernel
theorem dX1_append_34 : decode cX1_append 34 = .ok (.iconst 1, 1) := by decide +kernel
theorem dX1_append_35 : decode cX1_append 35 = .ok (.iadd, 1) := by decide +kernel
theorem dX1_append_36 : decode cX1_append 36 = .ok (.putfield 15, 3) := by decide +kernel
theorem dX1_append_39 : decode cX1_append 39 = .ok (.iconst 1, 1) := by decide +kernel
theorem dX1_append_40 : decode cX1_append 40 = .ok (.ireturn, 1) := by decide +kernel
theorem dX1_write_0 : decode cX1_write 0 = .ok (.iconst 0, 1) := by decide +kernel
theorem dX1_write_1 : decode cX1_write 1 = .ok (.istore_n 2, 1) := by decide +kernel
theorem dX1_write_2 : decode cX1_write 2 = .ok (.iload_n 2, 1) := by decide +kernel
theorem dX1_write_3 : decode cX1_write 3 = .ok (.aload_n 1, 1) := by decide +kernel
theorem dX1_write_4 : decode cX1_write 4 = .ok (.invokevirtual 40, 3) := by decide +kernel
theorem dX1_write_7 : decode cX1_write 7 = .ok (.if_icmp .ge 19, 3) := by decide +kernel
theorem dX1_write_10 : decode cX1_write 10 = .ok (.aload_n 0, 1) := by decide +kernel
theorem dX1_write_11 : decode cX1_write 11 = .ok (.aload_n 1, 1) := by decide +kernel
theorem dX1_write_12 : decode cX1_write 12 = .ok (.iload_n 2, 1) := by decide +kernel
theorem dX1_write_13 : decode cX1_write 13 = .ok (.invokevirtual 46, 3) := by decide +kernel
theorem dX1_write_16 : decode cX1_write 16 = .ok (.invokevirtual 50, 3) := by decide +kernel
theorem dX1_write_19 : decode cX1_write 19 = .ok (.pop, 1) := by decide +kernel
theorem dX1_write_20 : decode cX1_write 20 = .ok (.iinc 2 1, 3) := by decide +kernel
theorem dX1_write_23 : decode cX1_write 23 = .ok (.goto (-21), 3) := by decide +kernel
theorem dX1_write_26 : decode cX1_write 26 = .ok (.return_, 1) := by decide +kernel
theorem dX1_read_0 : decode cX1_read 0 = .ok (.aload_n 0, 1) := by decide +kernel
theorem dX1_read_1 : decode cX1_read 1 = .ok (.iconst (-1), 1) := by decide +kernel
theorem dX1_read_2 : decode cX1_read 2 = .ok (.putfield 19, 3) := by decide +kernel
theorem dX1_read_5 : decode cX1_read 5 = .ok (.aload_n 0, 1) := by decide +kernel
theorem dX1_read_6 : decode cX1_read 6 = .ok (.iconst 0, 1) := by decide +kernel
theorem dX1_read_7 : decode cX1_read 7 = .ok (.putfield 25, 3) := by decide +kernel
theorem dX1_read_10 : decode cX1_read 10 = .ok (.aload_n 0, 1) := by decide +kernel
theorem dX1_read_11 : decode cX1_read 11 = .ok (.iconst 0, 1) := by decide +kernel
theorem dX1_read_12 : decode cX1_read 12 = .ok (.putfield 28, 3) := by decide +kernel
theorem dX1_read_15 : decode cX1_read 15 = .ok (.iconst 3, 1) := by decide +kernel
theorem dX1_read_16 : decode cX1_read 16 = .ok (.newarray .int, 2) := by decide +kernel
theorem dX1_read_18 : decode cX1_read 18 = .ok (.astore_n 1, 1) := by decide +kernel
theorem dX1_read_19 : decode cX1_read 19 = .ok (.aload_n 0, 1) := by decide +kernel
theorem dX1_read_20 : decode cX1_read 20 = .ok (.invokevirtual 54, 3) := by decide +kernel
theorem dX1_read_23 : decode cX1_read 23 = .ok (.iconst 0, 1) := by decide +kernel
theorem dX1_read_24 : decode cX1_read 24 = .ok (.istore_n 2, 1) := by decide +kernel
theorem dX1_read_25 : decode cX1_read 25 = .ok (.iload_n 2, 1) := by decide +kernel
theorem dX1_read_26 : decode cX1_read 26 = .ok (.iconst 3, 1) := by decide +kernel
theorem dX1_read_27 : decode cX1_read 27 = .ok (.if_icmp .ge 34, 3) := by decide +kernel
theorem dX1_read_30 : decode cX1_read 30 = .ok (.aload_n 0, 1) := by decide +kernel
theorem dX1_read_31 : decode cX1_read 31 = .ok (.iconst 1, 1) := by decide +kernel
theorem dX1_read_32 : decode cX1_read 32 = .ok (.iload_n 2, 1) := by decide +kernel
theorem dX1_read_33 : decode cX1_read 33 = .ok (.iadd, 1) := by decide +kernel
theorem dX1_read_34 : decode cX1_read 34 = .ok (.invokevirtual 57, 3) := by decide +kernel
theorem dX1_read_37 : decode cX1_read 37 = .ok (.aload_n 0, 1) := by decide +kernel
theorem dX1_read_38 : decode cX1_read 38 = .ok (.iconst 0, 1) := by decide +kernel
theorem dX1_read_39 : decode cX1_read 39 = .ok (.invokevirtual 61, 3) := by decide +kernel
theorem dX1_read_42 : decode cX1_read 42 = .ok (.aload_n 0, 1) := by decide +kernel
theorem dX1_read_43 : decode cX1_read 43 = .ok (.bipush 59, 2) := by decide +kernel
theorem dX1_read_45 : decode cX1_read 45 = .ok (.invokevirtual 57, 3) := by decide +kernel
theorem dX1_read_48 : decode cX1_read 48 = .ok (.aload_n 1, 1) := by decide +kernel
theorem dX1_read_49 : decode cX1_read 49 = .ok (.iload_n 2, 1) := by decide +kernel
theorem dX1_read_50 : decode cX1_read 50 = .ok (.aload_n 0, 1) := by decide +kernel
theorem dX1_read_51 : decode cX1_read 51 = .ok (.getfield 25, 3) := by decide +kernel
theorem dX1_read_54 : decode cX1_read 54 = .ok (.iastore, 1) := by decide +kernel
theorem dX1_read_55 : decode cX1_read 55 = .ok (.iinc 2 1, 3) := by decide +kernel
theorem dX1_read_58 : decode cX1_read 58 = .ok (.goto (-33), 3) := by decide +kernel
theorem dX1_read_61 : decode cX1_read 61 = .ok (.aload_n 0, 1) := by decide +kernel
theorem dX1_read_62 : decode cX1_read 62 = .ok (.bipush 8, 2) := by decide +kernel
theorem dX1_read_64 : decode cX1_read 64 = .ok (.invokevirtual 57, 3) := by decide +kernel
theorem dX1_read_67 : decode cX1_read 67 = .ok (.aload_n 0, 1) := by decide +kernel
theorem dX1_read_68 : decode cX1_read 68 = .ok (.iconst 0, 1) := by decide +kernel
theorem dX1_read_69 : decode cX1_read 69 = .ok (.putfield 15, 3) := by decide +kernel
theorem dX1_read_72 : decode cX1_read 72 = .ok (.aload_n 0, 1) := by decide +kernel
theorem dX1_read_73 : decode cX1_read 73 = .ok (.getfield 19, 3) := by decide +kernel
theorem dX1_read_76 : decode cX1_read 76 = .ok (.iconst (-1), 1) := by decide +kernel
theorem dX1_read_77 : decode cX1_read 77 = .ok (.if_icmp .ne 18, 3) := by decide +kernel
theorem dX1_read_80 : decode cX1_read 80 = .ok (.new 64, 3) := by decide +kernel
theorem dX1_read_83 : decode cX1_read 83 = .ok (.dup, 1) := by decide +kernel
theorem dX1_read_84 : decode cX1_read 84 = .ok (.aload_n 0, 1) := by decide +kernel
theorem dX1_read_85 : decode cX1_read 85 = .ok (.invokevirtual 66, 3) := by decide +kernel
theorem dX1_read_88 : decode cX1_read 88 = .ok (.aload_n 1, 1) := by decide +kernel
theorem dX1_read_89 : decode cX1_read 89 = .ok (.invokespecial 70, 3) := by decide +kernel
theorem dX1_read_92 : decode cX1_read 92 = .ok (.goto 4, 3) := by decide +kernel
theorem dX1_read_95 : decode cX1_read 95 = .ok (.aconst_null, 1) := by decide +kernel
theorem dX1_read_96 : decode cX1_read 96 = .ok (.areturn, 1) := by decide +kernel
theorem dX1_madeCode_0 : decode cX1_madeCode 0 = .ok (.aload_n 0, 1) := by decide +kernel
theorem dX1_madeCode_1 : decode cX1_madeCode 1 = .ok (.getfield 25, 3) := by decide +kernel
theorem dX1_madeCode_4 : decode cX1_madeCode 4 = .ok (.iconst 0, 1) := by decide +kernel
theorem dX1_madeCode_5 : decode cX1_madeCode 5 = .ok (.sipush 160, 3) := by decide +kernel
theorem dX1_madeCode_8 : decode cX1_madeCode 8 = .ok (.invokestatic 73, 3) := by decide +kernel
theorem dX1_madeCode_11 : decode cX1_madeCode 11 = .ok (.newarray .int, 2) := by decide +kernel
theorem dX1_madeCode_13 : decode cX1_madeCode 13 = .ok (.astore_n 1, 1) := by decide +kernel
theorem dX1_madeCode_14 : decode cX1_madeCode 14 = .ok (.iconst 0, 1) := by decide +kernel
theorem dX1_madeCode_15 : decode cX1_madeCode 15 = .ok (.istore_n 2, 1) := by decide +kernel
theorem dX1_madeCode_16 : decode cX1_madeCode 16 = .ok (.iload_n 2, 1) := by decide +kernel
theorem dX1_madeCode_17 : decode cX1_madeCode 17 = .ok (.aload_n 1, 1) := by decide +kernel
theorem dX1_madeCode_18 : decode cX1_madeCode 18 = .ok (.arraylength, 1) := by decide +kernel
theorem dX1_madeCode_19 : decode cX1_madeCode 19 = .ok (.if_icmp .ge 25, 3) := by decide +kernel
theorem dX1_madeCode_22 : decode cX1_madeCode 22 = .ok (.iload_n 2, 1) := by decide +kernel
theorem dX1_madeCode_23 : decode cX1_madeCode 23 = .ok (.sipush 160, 3) := by decide +kernel
theorem dX1_madeCode_26 : decode cX1_madeCode 26 = .ok (.if_icmp .ge 18, 3) := by decide +kernel
theorem dX1_madeCode_29 : decode cX1_madeCode 29 = .ok (.aload_n 1, 1) := by decide +kernel
theorem dX1_madeCode_30 : decode cX1_madeCode 30 = .ok (.iload_n 2, 1) := by decide +kernel
theorem dX1_madeCode_31 : decode cX1_madeCode 31 = .ok (.aload_n 0, 1) := by decide +kernel
theorem dX1_madeCode_32 : decode cX1_madeCode 32 = .ok (.getfield 22, 3) := by decide +kernel
theorem dX1_madeCode_35 : decode cX1_madeCode 35 = .ok (.iload_n 2, 1) := by decide +kernel
theorem dX1_madeCode_36 : decode cX1_madeCode 36 = .ok (.iaload, 1) := by decide +kernel
theorem dX1_madeCode_37 : decode cX1_madeCode 37 = .ok (.iastore, 1) := by decide +kernel
theorem dX1_madeCode_38 : decode cX1_madeCode 38 = .ok (.iinc 2 1, 3) := by decide +kernel
theorem dX1_madeCode_41 : decode cX1_madeCode 41 = .ok (.goto (-25), 3) := by decide +kernel
theorem dX1_madeCode_44 : decode cX1_madeCode 44 = .ok (.aload_n 1, 1) := by decide +kernel
theorem dX1_madeCode_45 : decode cX1_madeCode 45 = .ok (.areturn, 1) := by decide +kernel
theorem dX1_readEither_0 : decode cX1_readEither 0 = .ok (.aload_n 0, 1) := by decide +kernel
theorem dX1_readEither_1 : decode cX1_readEither 1 = .ok (.iload_n 1, 1) := by decide +kernel
theorem dX1_readEither_2 : decode cX1_readEither 2 = .ok (.invokevirtual 77, 3) := by decide +kernel
theorem dX1_readEither_5 : decode cX1_readEither 5 = .ok (.iconst 0, 1) := by decide +kernel
theorem dX1_readEither_6 : decode cX1_readEither 6 = .ok (.istore_n 2, 1) := by decide +kernel
theorem dX1_readEither_7 : decode cX1_readEither 7 = .ok (.iload_n 2, 1) := by decide +kernel
theorem dX1_readEither_8 : decode cX1_readEither 8 = .ok (.sipush 160, 3) := by decide +kernel
theorem dX1_readEither_11 : decode cX1_readEither 11 = .ok (.if_icmp .ge 32, 3) := by decide +kernel
theorem dX1_readEither_14 : decode cX1_readEither 14 = .ok (.aload_n 0, 1) := by decide +kernel
theorem dX1_readEither_15 : decode cX1_readEither 15 = .ok (.getfield 31, 3) := by decide +kernel
theorem dX1_readEither_18 : decode cX1_readEither 18 = .ok (.iconst 4, 1) := by decide +kernel
theorem dX1_readEither_19 : decode cX1_readEither 19 = .ok (.if_icmp .ne 24, 3) := by decide +kernel
theorem dX1_readEither_22 : decode cX1_readEither 22 = .ok (.aload_n 0, 1) := by decide +kernel
theorem dX1_readEither_23 : decode cX1_readEither 23 = .ok (.invokevirtual 54, 3) := by decide +kernel
theorem dX1_readEither_26 : decode cX1_readEither 26 = .ok (.aload_n 0, 1) := by decide +kernel
theorem dX1_readEither_27 : decode cX1_readEither 27 = .ok (.iload_n 1, 1) := by decide +kernel
theorem dX1_readEither_28 : decode cX1_readEither 28 = .ok (.invokevirtual 77, 3) := by decide +kernel
theorem dX1_readEither_31 : decode cX1_readEither 31 = .ok (.aload_n 0, 1) := by decide +kernel
theorem dX1_readEither_32 : decode cX1_readEither 32 = .ok (.bipush (-18), 2) := by decide +kernel
theorem dX1_readEither_34 : decode cX1_readEither 34 = .ok (.invokevirtual 80, 3) := by decide +kernel
theorem dX1_readEither_37 : decode cX1_readEither 37 = .ok (.iinc 2 1, 3) := by decide +kernel
theorem dX1_readEither_40 : decode cX1_readEither 40 = .ok (.goto (-33), 3) := by decide +kernel
theorem dX1_readEither_43 : decode cX1_readEither 43 = .ok (.return_, 1) := by decide +kernel
theorem dX1_readBoth_0 : decode cX1_readBoth 0 = .ok (.aload_n 0, 1) := by decide +kernel
theorem dX1_readBoth_1 : decode cX1_readBoth 1 = .ok (.iload_n 1, 1) := by decide +kernel
theorem dX1_readBoth_2 : decode cX1_readBoth 2 = .ok (.invokevirtual 83, 3) := by decide +kernel
theorem dX1_readBoth_5 : decode cX1_readBoth 5 = .ok (.iconst 0, 1) := by decide +kernel
theorem dX1_readBoth_6 : decode cX1_readBoth 6 = .ok (.istore_n 2, 1) := by decide +kernel
theorem dX1_readBoth_7 : decode cX1_readBoth 7 = .ok (.iload_n 2, 1) := by decide +kernel
theorem dX1_readBoth_8 : decode cX1_readBoth 8 = .ok (.sipush 160, 3) := by decide +kernel
theorem dX1_readBoth_11 : decode cX1_readBoth 11 = .ok (.if_icmp .ge 32, 3) := by decide +kernel
theorem dX1_readBoth_14 : decode cX1_readBoth 14 = .ok (.aload_n 0, 1) := by decide +kernel
theorem dX1_readBoth_15 : decode cX1_readBoth 15 = .ok (.getfield 31, 3) := by decide +kernel
theorem dX1_readBoth_18 : decode cX1_readBoth 18 = .ok (.iconst 5, 1) := by decide +kernel
theorem dX1_readBoth_19 : decode cX1_readBoth 19 = .ok (.if_icmp .ne 24, 3) := by decide +kernel
theorem dX1_readBoth_22 : decode cX1_readBoth 22 = .ok (.aload_n 0, 1) := by decide +kernel
theorem dX1_readBoth_23 : decode cX1_readBoth 23 = .ok (.invokevirtual 54, 3) := by decide +kernel
theorem dX1_readBoth_26 : decode cX1_readBoth 26 = .ok (.aload_n 0, 1) := by decide +kernel
theorem dX1_readBoth_27 : decode cX1_readBoth 27 = .ok (.iload_n 1, 1) := by decide +kernel
theorem dX1_readBoth_28 : decode cX1_readBoth 28 = .ok (.invokevirtual 83, 3) := by decide +kernel
theorem dX1_readBoth_31 : decode cX1_readBoth 31 = .ok (.aload_n 0, 1) := by decide +kernel
theorem dX1_readBoth_32 : decode cX1_readBoth 32 = .ok (.bipush (-17), 2) := by decide +kernel
theorem dX1_readBoth_34 : decode cX1_readBoth 34 = .ok (.invokevirtual 80, 3) := by decide +kernel
theorem dX1_readBoth_37 : decode cX1_readBoth 37 = .ok (.iinc 2 1, 3) := by decide +kernel
theorem dX1_readBoth_40 : decode cX1_readBoth 40 = .ok (.goto (-33), 3) := by decide +kernel
theorem dX1_readBoth_43 : decode cX1_readBoth 43 = .ok (.return_, 1) := by decide +kernel
theorem dX1_readNot_0 : decode cX1_readNot 0 = .ok (.aload_n 0, 1) := by decide +kernel
theorem dX1_readNot_1 : decode cX1_readNot 1 = .ok (.bipush 6, 2) := by decide +kernel
theorem dX1_readNot_3 : decode cX1_readNot 3 = .ok (.iload_n 1, 1) := by decide +kernel
theorem dX1_readNot_4 : decode cX1_readNot 4 = .ok (.invokevirtual 86, 3) := by decide +kernel
theorem dX1_readNot_7 : decode cX1_readNot 7 = .ok (.istore_n 2, 1) := by decide +kernel
theorem dX1_readNot_8 : decode cX1_readNot 8 = .ok (.aload_n 0, 1) := by decide +kernel
theorem dX1_readNot_9 : decode cX1_readNot 9 = .ok (.iload_n 1, 1) := by decide +kernel
theorem dX1_readNot_10 : decode cX1_readNot 10 = .ok (.iload_n 2, 1) := by decide +kernel
theorem dX1_readNot_11 : decode cX1_readNot 11 = .ok (.iadd, 1) := by decide +kernel
theorem dX1_readNot_12 : decode cX1_readNot 12 = .ok (.invokevirtual 90, 3) := by decide +kernel
theorem dX1_readNot_15 : decode cX1_readNot 15 = .ok (.iconst 0, 1) := by decide +kernel
theorem dX1_readNot_16 : decode cX1_readNot 16 = .ok (.istore_n 3, 1) := by decide +kernel
theorem dX1_readNot_17 : decode cX1_readNot 17 = .ok (.iload_n 3, 1) := by decide +kernel
theorem dX1_readNot_18 : decode cX1_readNot 18 = .ok (.iload_n 2, 1) := by decide +kernel
theorem dX1_readNot_19 : decode cX1_readNot 19 = .ok (.if_icmp .ge 15, 3) := by decide +kernel
theorem dX1_readNot_22 : decode cX1_readNot 22 = .ok (.aload_n 0, 1) := by decide +kernel
theorem dX1_readNot_23 : decode cX1_readNot 23 = .ok (.bipush (-19), 2) := by decide +kernel
theorem dX1_readNot_25 : decode cX1_readNot 25 = .ok (.invokevirtual 80, 3) := by decide +kernel
theorem dX1_readNot_28 : decode cX1_readNot 28 = .ok (.iinc 3 1, 3) := by decide +kernel
theorem dX1_readNot_31 : decode cX1_readNot 31 = .ok (.goto (-14), 3) := by decide +kernel
theorem dX1_readNot_34 : decode cX1_readNot 34 = .ok (.return_, 1) := by decide +kernel
theorem dX1_readCompared_0 : decode cX1_readCompared 0 = .ok (.aload_n 0, 1) := by decide +kernel
theorem dX1_readCompared_1 : decode cX1_readCompared 1 = .ok (.iload_n 1, 1) := by decide +kernel
theorem dX1_readCompared_2 : decode cX1_readCompared 2 = .ok (.invokevirtual 93, 3) := by decide +kernel
theorem dX1_readCompared_5 : decode cX1_readCompared 5 = .ok (.aload_n 0, 1) := by decide +kernel
theorem dX1_readCompared_6 : decode cX1_readCompared 6 = .ok (.getfield 31, 3) := by decide +kernel
theorem dX1_readCompared_9 : decode cX1_readCompared 9 = .ok (.bipush 60, 2) := by decide +kernel
theorem dX1_readCompared_11 : decode cX1_readCompared 11 = .ok (.if_icmp .eq 12, 3) := by decide +kernel
theorem dX1_readCompared_14 : decode cX1_readCompared 14 = .ok (.aload_n 0, 1) := by decide +kernel
theorem dX1_readCompared_15 : decode cX1_readCompared 15 = .ok (.getfield 31, 3) := by decide +kernel
theorem dX1_readCompared_18 : decode cX1_readCompared 18 = .ok (.bipush 61, 2) := by decide +kernel
theorem dX1_readCompared_20 : decode cX1_readCompared 20 = .ok (.if_icmp .ne 34, 3) := by decide +kernel
theorem dX1_readCompared_23 : decode cX1_readCompared 23 = .ok (.aload_n 0, 1) := by decide +kernel
theorem dX1_readCompared_24 : decode cX1_readCompared 24 = .ok (.getfield 31, 3) := by decide +kernel
theorem dX1_readCompared_27 : decode cX1_readCompared 27 = .ok (.istore_n 2, 1) := by decide +kernel
theorem dX1_readCompared_28 : decode cX1_readCompared 28 = .ok (.aload_n 0, 1) := by decide +kernel
theorem dX1_readCompared_29 : decode cX1_readCompared 29 = .ok (.invokevirtual 54, 3) := by decide +kernel
theorem dX1_readCompared_32 : decode cX1_readCompared 32 = .ok (.aload_n 0, 1) := by decide +kernel
theorem dX1_readCompared_33 : decode cX1_readCompared 33 = .ok (.iload_n 1, 1) := by decide +kernel
theorem dX1_readCompared_34 : decode cX1_readCompared 34 = .ok (.invokevirtual 93, 3) := by decide +kernel
theorem dX1_readCompared_37 : decode cX1_readCompared 37 = .ok (.aload_n 0, 1) := by decide +kernel
theorem dX1_readCompared_38 : decode cX1_readCompared 38 = .ok (.iload_n 2, 1) := by decide +kernel
theorem dX1_readCompared_39 : decode cX1_readCompared 39 = .ok (.bipush 60, 2) := by decide +kernel
theorem dX1_readCompared_41 : decode cX1_readCompared 41 = .ok (.if_icmp .ne 8, 3) := by decide +kernel
theorem dX1_readCompared_44 : decode cX1_readCompared 44 = .ok (.bipush (-15), 2) := by decide +kernel
theorem dX1_readCompared_46 : decode cX1_readCompared 46 = .ok (.goto 5, 3) := by decide +kernel
theorem dX1_readCompared_49 : decode cX1_readCompared 49 = .ok (.bipush (-16), 2) := by decide +kernel
theorem dX1_readCompared_51 : decode cX1_readCompared 51 = .ok (.invokevirtual 80, 3) := by decide +kernel
theorem dX1_readCompared_54 : decode cX1_readCompared 54 = .ok (.return_, 1) := by decide +kernel
theorem dX1_readSum_0 : decode cX1_readSum 0 = .ok (.aload_n 0, 1) := by decide +kernel
theorem dX1_readSum_1 : decode cX1_readSum 1 = .ok (.iload_n 1, 1) := by decide +kernel
theorem dX1_readSum_2 : decode cX1_readSum 2 = .ok (.invokevirtual 96, 3) := by decide +kernel
theorem dX1_readSum_5 : decode cX1_readSum 5 = .ok (.iconst 0, 1) := by decide +kernel
theorem dX1_readSum_6 : decode cX1_readSum 6 = .ok (.istore_n 2, 1) := by decide +kernel
theorem dX1_readSum_7 : decode cX1_readSum 7 = .ok (.iload_n 2, 1) := by decide +kernel
theorem dX1_readSum_8 : decode cX1_readSum 8 = .ok (.sipush 160, 3) := by decide +kernel
theorem dX1_readSum_11 : decode cX1_readSum 11 = .ok (.if_icmp .ge 58, 3) := by decide +kernel
theorem dX1_readSum_14 : decode cX1_readSum 14 = .ok (.aload_n 0, 1) := by decide +kernel
theorem dX1_readSum_15 : decode cX1_readSum 15 = .ok (.getfield 31, 3) := by decide +kernel
theorem dX1_readSum_18 : decode cX1_readSum 18 = .ok (.bipush 43, 2) := by decide +kernel
theorem dX1_readSum_20 : decode cX1_readSum 20 = .ok (.if_icmp .eq 12, 3) := by decide +kernel
theorem dX1_readSum_23 : decode cX1_readSum 23 = .ok (.aload_n 0, 1) := by decide +kernel
theorem dX1_readSum_24 : decode cX1_readSum 24 = .ok (.getfield 31, 3) := by decide +kernel
theorem dX1_readSum_27 : decode cX1_readSum 27 = .ok (.bipush 45, 2) := by decide +kernel
theorem dX1_readSum_29 : decode cX1_readSum 29 = .ok (.if_icmp .ne 40, 3) := by decide +kernel
theorem dX1_readSum_32 : decode cX1_readSum 32 = .ok (.aload_n 0, 1) := by decide +kernel
theorem dX1_readSum_33 : decode cX1_readSum 33 = .ok (.getfield 31, 3) := by decide +kernel
theorem dX1_readSum_36 : decode cX1_readSum 36 = .ok (.istore_n 3, 1) := by decide +kernel
theorem dX1_readSum_37 : decode cX1_readSum 37 = .ok (.aload_n 0, 1) := by decide +kernel
theorem dX1_readSum_38 : decode cX1_readSum 38 = .ok (.invokevirtual 54, 3) := by decide +kernel
theorem dX1_readSum_41 : decode cX1_readSum 41 = .ok (.aload_n 0, 1) := by decide +kernel
theorem dX1_readSum_42 : decode cX1_readSum 42 = .ok (.iload_n 1, 1) := by decide +kernel
theorem dX1_readSum_43 : decode cX1_readSum 43 = .ok (.invokevirtual 96, 3) := by decide +kernel
theorem dX1_readSum_46 : decode cX1_readSum 46 = .ok (.aload_n 0, 1) := by decide +kernel
theorem dX1_readSum_47 : decode cX1_readSum 47 = .ok (.iload_n 3, 1) := by decide +kernel
theorem dX1_readSum_48 : decode cX1_readSum 48 = .ok (.bipush 43, 2) := by decide +kernel
theorem dX1_readSum_50 : decode cX1_readSum 50 = .ok (.if_icmp .ne 8, 3) := by decide +kernel
theorem dX1_readSum_53 : decode cX1_readSum 53 = .ok (.bipush (-11), 2) := by decide +kernel
theorem dX1_readSum_55 : decode cX1_readSum 55 = .ok (.goto 5, 3) := by decide +kernel
theorem dX1_readSum_58 : decode cX1_readSum 58 = .ok (.bipush (-12), 2) := by decide +kernel
theorem dX1_readSum_60 : decode cX1_readSum 60 = .ok (.invokevirtual 80, 3) := by decide +kernel
theorem dX1_readSum_63 : decode cX1_readSum 63 = .ok (.iinc 2 1, 3) := by decide +kernel
theorem dX1_readSum_66 : decode cX1_readSum 66 = .ok (.goto (-59), 3) := by decide +kernel
theorem dX1_readSum_69 : decode cX1_readSum 69 = .ok (.return_, 1) := by decide +kernel
theorem dX1_readTerm_0 : decode cX1_readTerm 0 = .ok (.aload_n 0, 1) := by decide +kernel
theorem dX1_readTerm_1 : decode cX1_readTerm 1 = .ok (.iload_n 1, 1) := by decide +kernel
theorem dX1_readTerm_2 : decode cX1_readTerm 2 = .ok (.invokevirtual 99, 3) := by decide +kernel
theorem dX1_readTerm_5 : decode cX1_readTerm 5 = .ok (.iconst 0, 1) := by decide +kernel
theorem dX1_readTerm_6 : decode cX1_readTerm 6 = .ok (.istore_n 2, 1) := by decide +kernel
theorem dX1_readTerm_7 : decode cX1_readTerm 7 = .ok (.iload_n 2, 1) := by decide +kernel
theorem dX1_readTerm_8 : decode cX1_readTerm 8 = .ok (.sipush 160, 3) := by decide +kernel
theorem dX1_readTerm_11 : decode cX1_readTerm 11 = .ok (.if_icmp .ge 33, 3) := by decide +kernel
theorem dX1_readTerm_14 : decode cX1_readTerm 14 = .ok (.aload_n 0, 1) := by decide +kernel
theorem dX1_readTerm_15 : decode cX1_readTerm 15 = .ok (.getfield 31, 3) := by decide +kernel
theorem dX1_readTerm_18 : decode cX1_readTerm 18 = .ok (.bipush 42, 2) := by decide +kernel
theorem dX1_readTerm_20 : decode cX1_readTerm 20 = .ok (.if_icmp .ne 24, 3) := by decide +kernel
theorem dX1_readTerm_23 : decode cX1_readTerm 23 = .ok (.aload_n 0, 1) := by decide +kernel
theorem dX1_readTerm_24 : decode cX1_readTerm 24 = .ok (.invokevirtual 54, 3) := by decide +kernel
theorem dX1_readTerm_27 : decode cX1_readTerm 27 = .ok (.aload_n 0, 1) := by decide +kernel
theorem dX1_readTerm_28 : decode cX1_readTerm 28 = .ok (.iload_n 1, 1) := by decide +kernel
theorem dX1_readTerm_29 : decode cX1_readTerm 29 = .ok (.invokevirtual 99, 3) := by decide +kernel
theorem dX1_readTerm_32 : decode cX1_readTerm 32 = .ok (.aload_n 0, 1) := by decide +kernel
theorem dX1_readTerm_33 : decode cX1_readTerm 33 = .ok (.bipush (-13), 2) := by decide +kernel
theorem dX1_readTerm_35 : decode cX1_readTerm 35 = .ok (.invokevirtual 80, 3) := by decide +kernel
theorem dX1_readTerm_38 : decode cX1_readTerm 38 = .ok (.iinc 2 1, 3) := by decide +kernel
theorem dX1_readTerm_41 : decode cX1_readTerm 41 = .ok (.goto (-34), 3) := by decide +kernel
theorem dX1_readTerm_44 : decode cX1_readTerm 44 = .ok (.return_, 1) := by decide +kernel
theorem dX1_readOne_0 : decode cX1_readOne 0 = .ok (.aload_n 0, 1) := by decide +kernel
theorem dX1_readOne_1 : decode cX1_readOne 1 = .ok (.bipush 45, 2) := by decide +kernel
theorem dX1_readOne_3 : decode cX1_readOne 3 = .ok (.iload_n 1, 1) := by decide +kernel
theorem dX1_readOne_4 : decode cX1_readOne 4 = .ok (.invokevirtual 86, 3) := by decide +kernel
theorem dX1_readOne_7 : decode cX1_readOne 7 = .ok (.istore_n 2, 1) := by decide +kernel
theorem dX1_readOne_8 : decode cX1_readOne 8 = .ok (.aload_n 0, 1) := by decide +kernel
theorem dX1_readOne_9 : decode cX1_readOne 9 = .ok (.iload_n 1, 1) := by decide +kernel
theorem dX1_readOne_10 : decode cX1_readOne 10 = .ok (.iload_n 2, 1) := by decide +kernel
theorem dX1_readOne_11 : decode cX1_readOne 11 = .ok (.iadd, 1) := by decide +kernel
theorem dX1_readOne_12 : decode cX1_readOne 12 = .ok (.invokevirtual 102, 3) := by decide +kernel
theorem dX1_readOne_15 : decode cX1_readOne 15 = .ok (.iconst 0, 1) := by decide +kernel
theorem dX1_readOne_16 : decode cX1_readOne 16 = .ok (.istore_n 3, 1) := by decide +kernel
theorem dX1_readOne_17 : decode cX1_readOne 17 = .ok (.iload_n 3, 1) := by decide +kernel
theorem dX1_readOne_18 : decode cX1_readOne 18 = .ok (.iload_n 2, 1) := by decide +kernel
theorem dX1_readOne_19 : decode cX1_readOne 19 = .ok (.if_icmp .ge 15, 3) := by decide +kernel
theorem dX1_readOne_22 : decode cX1_readOne 22 = .ok (.aload_n 0, 1) := by decide +kernel
theorem dX1_readOne_23 : decode cX1_readOne 23 = .ok (.bipush (-14), 2) := by decide +kernel
theorem dX1_readOne_25 : decode cX1_readOne 25 = .ok (.invokevirtual 80, 3) := by decide +kernel
theorem dX1_readOne_28 : decode cX1_readOne 28 = .ok (.iinc 3 1, 3) := by decide +kernel
theorem dX1_readOne_31 : decode cX1_readOne 31 = .ok (.goto (-14), 3) := by decide +kernel
theorem dX1_readOne_34 : decode cX1_readOne 34 = .ok (.return_, 1) := by decide +kernel
theorem dX1_readPlain_0 : decode cX1_readPlain 0 = .ok (.aload_n 0, 1) := by decide +kernel
theorem dX1_readPlain_1 : decode cX1_readPlain 1 = .ok (.getfield 31, 3) := by decide +kernel
theorem dX1_readPlain_4 : decode cX1_readPlain 4 = .ok (.bipush 7, 2) := by decide +kernel
theorem dX1_readPlain_6 : decode cX1_readPlain 6 = .ok (.if_icmp .ne 18, 3) := by decide +kernel
theorem dX1_readPlain_9 : decode cX1_readPlain 9 = .ok (.aload_n 0, 1) := by decide +kernel
theorem dX1_readPlain_10 : decode cX1_readPlain 10 = .ok (.aload_n 0, 1) := by decide +kernel
theorem dX1_readPlain_11 : decode cX1_readPlain 11 = .ok (.getfield 37, 3) := by decide +kernel
theorem dX1_readPlain_14 : decode cX1_readPlain 14 = .ok (.invokevirtual 80, 3) := by decide +kernel
theorem dX1_readPlain_17 : decode cX1_readPlain 17 = .ok (.aload_n 0, 1) := by decide +kernel
theorem dX1_readPlain_18 : decode cX1_readPlain 18 = .ok (.invokevirtual 54, 3) := by decide +kernel
theorem dX1_readPlain_21 : decode cX1_readPlain 21 = .ok (.goto 77, 3) := by decide +kernel
theorem dX1_readPlain_24 : decode cX1_readPlain 24 = .ok (.aload_n 0, 1) := by decide +kernel
theorem dX1_readPlain_25 : decode cX1_readPlain 25 = .ok (.getfield 31, 3) := by decide +kernel
theorem dX1_readPlain_28 : decode cX1_readPlain 28 = .ok (.bipush 10, 2) := by decide +kernel
theorem dX1_readPlain_30 : decode cX1_readPlain 30 = .ok (.if_icmp .lt 30, 3) := by decide +kernel
theorem dX1_readPlain_33 : decode cX1_readPlain 33 = .ok (.aload_n 0, 1) := by decide +kernel
theorem dX1_readPlain_34 : decode cX1_readPlain 34 = .ok (.getfield 31, 3) := by decide +kernel
theorem dX1_readPlain_37 : decode cX1_readPlain 37 = .ok (.bipush 16, 2) := by decide +kernel
theorem dX1_readPlain_39 : decode cX1_readPlain 39 = .ok (.if_icmp .ge 21, 3) := by decide +kernel
theorem dX1_readPlain_42 : decode cX1_readPlain 42 = .ok (.aload_n 0, 1) := by decide +kernel
theorem dX1_readPlain_43 : decode cX1_readPlain 43 = .ok (.bipush 9, 2) := by decide +kernel
theorem dX1_readPlain_45 : decode cX1_readPlain 45 = .ok (.aload_n 0, 1) := by decide +kernel
theorem dX1_readPlain_46 : decode cX1_readPlain 46 = .ok (.getfield 31, 3) := by decide +kernel
theorem dX1_readPlain_49 : decode cX1_readPlain 49 = .ok (.isub, 1) := by decide +kernel
theorem dX1_readPlain_50 : decode cX1_readPlain 50 = .ok (.invokevirtual 80, 3) := by decide +kernel
theorem dX1_readPlain_53 : decode cX1_readPlain 53 = .ok (.aload_n 0, 1) := by decide +kernel
theorem dX1_readPlain_54 : decode cX1_readPlain 54 = .ok (.invokevirtual 54, 3) := by decide +kernel
theorem dX1_readPlain_57 : decode cX1_readPlain 57 = .ok (.goto 41, 3) := by decide +kernel
theorem dX1_readPlain_60 : decode cX1_readPlain 60 = .ok (.aload_n 0, 1) := by decide +kernel
theorem dX1_readPlain_61 : decode cX1_readPlain 61 = .ok (.getfield 31, 3) := by decide +kernel
theorem dX1_readPlain_64 : decode cX1_readPlain 64 = .ok (.bipush 40, 2) := by decide +kernel
theorem dX1_readPlain_66 : decode cX1_readPlain 66 = .ok (.if_icmp .ne 28, 3) := by decide +kernel
theorem dX1_readPlain_69 : decode cX1_readPlain 69 = .ok (.iload_n 1, 1) := by decide +kernel
theorem dX1_readPlain_70 : decode cX1_readPlain 70 = .ok (.iconst 5, 1) := by decide +kernel
theorem dX1_readPlain_71 : decode cX1_readPlain 71 = .ok (.if_icmp .ge 23, 3) := by decide +kernel
theorem dX1_readPlain_74 : decode cX1_readPlain 74 = .ok (.aload_n 0, 1) := by decide +kernel
theorem dX1_readPlain_75 : decode cX1_readPlain 75 = .ok (.invokevirtual 54, 3) := by decide +kernel
theorem dX1_readPlain_78 : decode cX1_readPlain 78 = .ok (.aload_n 0, 1) := by decide +kernel
theorem dX1_readPlain_79 : decode cX1_readPlain 79 = .ok (.iload_n 1, 1) := by decide +kernel
theorem dX1_readPlain_80 : decode cX1_readPlain 80 = .ok (.iconst 1, 1) := by decide +kernel
theorem dX1_readPlain_81 : decode cX1_readPlain 81 = .ok (.iadd, 1) := by decide +kernel
theorem dX1_readPlain_82 : decode cX1_readPlain 82 = .ok (.invokevirtual 61, 3) := by decide +kernel
theorem dX1_readPlain_85 : decode cX1_readPlain 85 = .ok (.aload_n 0, 1) := by decide +kernel
theorem dX1_readPlain_86 : decode cX1_readPlain 86 = .ok (.bipush 41, 2) := by decide +kernel
theorem dX1_readPlain_88 : decode cX1_readPlain 88 = .ok (.invokevirtual 57, 3) := by decide +kernel
theorem dX1_readPlain_91 : decode cX1_readPlain 91 = .ok (.goto 7, 3) := by decide +kernel
theorem dX1_readPlain_94 : decode cX1_readPlain 94 = .ok (.aload_n 0, 1) := by decide +kernel
theorem dX1_readPlain_95 : decode cX1_readPlain 95 = .ok (.invokevirtual 105, 3) := by decide +kernel
theorem dX1_readPlain_98 : decode cX1_readPlain 98 = .ok (.return_, 1) := by decide +kernel
theorem dX1_passed_0 : decode cX1_passed 0 = .ok (.iconst 0, 1) := by decide +kernel
theorem dX1_passed_1 : decode cX1_passed 1 = .ok (.istore_n 3, 1) := by decide +kernel
theorem dX1_passed_2 : decode cX1_passed 2 = .ok (.iload_n 2, 1) := by decide +kernel
theorem dX1_passed_3 : decode cX1_passed 3 = .ok (.istore 4, 2) := by decide +kernel
theorem dX1_passed_5 : decode cX1_passed 5 = .ok (.iload 4, 2) := by decide +kernel
theorem dX1_passed_7 : decode cX1_passed 7 = .ok (.iconst 5, 1) := by decide +kernel
theorem dX1_passed_8 : decode cX1_passed 8 = .ok (.if_icmp .ge 24, 3) := by decide +kernel
theorem dX1_passed_11 : decode cX1_passed 11 = .ok (.aload_n 0, 1) := by decide +kernel
theorem dX1_passed_12 : decode cX1_passed 12 = .ok (.getfield 31, 3) := by decide +kernel
theorem dX1_passed_15 : decode cX1_passed 15 = .ok (.iload_n 1, 1) := by decide +kernel
theorem dX1_passed_16 : decode cX1_passed 16 = .ok (.if_icmp .ne 16, 3) := by decide +kernel
theorem dX1_passed_19 : decode cX1_passed 19 = .ok (.aload_n 0, 1) := by decide +kernel
theorem dX1_passed_20 : decode cX1_passed 20 = .ok (.invokevirtual 54, 3) := by decide +kernel
theorem dX1_passed_23 : decode cX1_passed 23 = .ok (.iinc 3 1, 3) := by decide +kernel
theorem dX1_passed_26 : decode cX1_passed 26 = .ok (.iinc 4 1, 3) := by decide +kernel
theorem dX1_passed_29 : decode cX1_passed 29 = .ok (.goto (-24), 3) := by decide +kernel
theorem dX1_passed_32 : decode cX1_passed 32 = .ok (.iload_n 3, 1) := by decide +kernel
theorem dX1_passed_33 : decode cX1_passed 33 = .ok (.ireturn, 1) := by decide +kernel
theorem dX1_expect_0 : decode cX1_expect 0 = .ok (.aload_n 0, 1) := by decide +kernel
theorem dX1_expect_1 : decode cX1_expect 1 = .ok (.getfield 31, 3) := by decide +kernel
theorem dX1_expect_4 : decode cX1_expect 4 = .ok (.iload_n 1, 1) := by decide +kernel
theorem dX1_expect_5 : decode cX1_expect 5 = .ok (.if_icmp .eq 10, 3) := by decide +kernel
theorem dX1_expect_8 : decode cX1_expect 8 = .ok (.aload_n 0, 1) := by decide +kernel
theorem dX1_expect_9 : decode cX1_expect 9 = .ok (.invokevirtual 105, 3) := by decide +kernel
theorem dX1_expect_12 : decode cX1_expect 12 = .ok (.goto 7, 3) := by decide +kernel
theorem dX1_expect_15 : decode cX1_expect 15 = .ok (.aload_n 0, 1) := by decide +kernel
theorem dX1_expect_16 : decode cX1_expect 16 = .ok (.invokevirtual 54, 3) := by decide +kernel
theorem dX1_expect_19 : decode cX1_expect 19 = .ok (.return_, 1) := by decide +kernel
theorem dX1_fails_0 : decode cX1_fails 0 = .ok (.aload_n 0, 1) := by decide +kernel
theorem dX1_fails_1 : decode cX1_fails 1 = .ok (.getfield 19, 3) := by decide +kernel
theorem dX1_fails_4 : decode cX1_fails 4 = .ok (.iconst (-1), 1) := by decide +kernel
theorem dX1_fails_5 : decode cX1_fails 5 = .ok (.if_icmp .ne 11, 3) := by decide +kernel
theorem dX1_fails_8 : decode cX1_fails 8 = .ok (.aload_n 0, 1) := by decide +kernel
theorem dX1_fails_9 : decode cX1_fails 9 = .ok (.aload_n 0, 1) := by decide +kernel
theorem dX1_fails_10 : decode cX1_fails 10 = .ok (.getfield 34, 3) := by decide +kernel
theorem dX1_fails_13 : decode cX1_fails 13 = .ok (.putfield 19, 3) := by decide +kernel
theorem dX1_fails_16 : decode cX1_fails 16 = .ok (.aload_n 0, 1) := by decide +kernel
theorem dX1_fails_17 : decode cX1_fails 17 = .ok (.bipush 9, 2) := by decide +kernel
theorem dX1_fails_19 : decode cX1_fails 19 = .ok (.putfield 31, 3) := by decide +kernel
theorem dX1_fails_22 : decode cX1_fails 22 = .ok (.return_, 1) := by decide +kernel
theorem dX1_emit_0 : decode cX1_emit 0 = .ok (.aload_n 0, 1) := by decide +kernel
theorem dX1_emit_1 : decode cX1_emit 1 = .ok (.getfield 25, 3) := by decide +kernel
theorem dX1_emit_4 : decode cX1_emit 4 = .ok (.ifCond .lt 33, 3) := by decide +kernel
theorem dX1_emit_7 : decode cX1_emit 7 = .ok (.aload_n 0, 1) := by decide +kernel
theorem dX1_emit_8 : decode cX1_emit 8 = .ok (.getfield 25, 3) := by decide +kernel
theorem dX1_emit_11 : decode cX1_emit 11 = .ok (.sipush 160, 3) := by decide +kernel
theorem dX1_emit_14 : decode cX1_emit 14 = .ok (.if_icmp .ge 23, 3) := by decide +kernel
theorem dX1_emit_17 : decode cX1_emit 17 = .ok (.aload_n 0, 1) := by decide +kernel
theorem dX1_emit_18 : decode cX1_emit 18 = .ok (.getfield 22, 3) := by decide +kernel
theorem dX1_emit_21 : decode cX1_emit 21 = .ok (.aload_n 0, 1) := by decide +kernel
theorem dX1_emit_22 : decode cX1_emit 22 = .ok (.getfield 25, 3) := by decide +kernel
theorem dX1_emit_25 : decode cX1_emit 25 = .ok (.iload_n 1, 1) := by decide +kernel
theorem dX1_emit_26 : decode cX1_emit 26 = .ok (.iastore, 1) := by decide +kernel
theorem dX1_emit_27 : decode cX1_emit 27 = .ok (.aload_n 0, 1) := by decide +kernel
theorem dX1_emit_28 : decode cX1_emit 28 = .ok (.dup, 1) := by decide +kernel
theorem dX1_emit_29 : decode cX1_emit 29 = .ok (.getfield 25, 3) := by decide +kernel
theorem dX1_emit_32 : decode cX1_emit 32 = .ok (.iconst 1, 1) := by decide +kernel
theorem dX1_emit_33 : decode cX1_emit 33 = .ok (.iadd, 1) := by decide +kernel
theorem dX1_emit_34 : decode cX1_emit 34 = .ok (.putfield 25, 3) := by decide +kernel
theorem dX1_emit_37 : decode cX1_emit 37 = .ok (.return_, 1) := by decide +kernel
theorem dX1_byteAt_0 : decode cX1_byteAt 0 = .ok (.iload_n 1, 1) := by decide +kernel
theorem dX1_byteAt_1 : decode cX1_byteAt 1 = .ok (.ifCond .lt 27, 3) := by decide +kernel
theorem dX1_byteAt_4 : decode cX1_byteAt 4 = .ok (.iload_n 1, 1) := by decide +kernel
theorem dX1_byteAt_5 : decode cX1_byteAt 5 = .ok (.aload_n 0, 1) := by decide +kernel
theorem dX1_byteAt_6 : decode cX1_byteAt 6 = .ok (.getfield 15, 3) := by decide +kernel
theorem dX1_byteAt_9 : decode cX1_byteAt 9 = .ok (.if_icmp .ge 19, 3) := by decide +kernel
theorem dX1_byteAt_12 : decode cX1_byteAt 12 = .ok (.iload_n 1, 1) := by decide +kernel
theorem dX1_byteAt_13 : decode cX1_byteAt 13 = .ok (.sipush 160, 3) := by decide +kernel
theorem dX1_byteAt_16 : decode cX1_byteAt 16 = .ok (.if_icmp .ge 12, 3) := by decide +kernel
theorem dX1_byteAt_19 : decode cX1_byteAt 19 = .ok (.aload_n 0, 1) := by decide +kernel
theorem dX1_byteAt_20 : decode cX1_byteAt 20 = .ok (.getfield 9, 3) := by decide +kernel
theorem dX1_byteAt_23 : decode cX1_byteAt 23 = .ok (.iload_n 1, 1) := by decide +kernel
theorem dX1_byteAt_24 : decode cX1_byteAt 24 = .ok (.iaload, 1) := by decide +kernel
theorem dX1_byteAt_25 : decode cX1_byteAt 25 = .ok (.goto 4, 3) := by decide +kernel
theorem dX1_byteAt_28 : decode cX1_byteAt 28 = .ok (.iconst (-1), 1) := by decide +kernel
theorem dX1_byteAt_29 : decode cX1_byteAt 29 = .ok (.ireturn, 1) := by decide +kernel
theorem dX1_next_0 : decode cX1_next 0 = .ok (.iconst 0, 1) := by decide +kernel
theorem dX1_next_1 : decode cX1_next 1 = .ok (.istore_n 1, 1) := by decide +kernel
theorem dX1_next_2 : decode cX1_next 2 = .ok (.iload_n 1, 1) := by decide +kernel
theorem dX1_next_3 : decode cX1_next 3 = .ok (.sipush 160, 3) := by decide +kernel
theorem dX1_next_6 : decode cX1_next 6 = .ok (.if_icmp .ge 45, 3) := by decide +kernel
theorem dX1_next_9 : decode cX1_next 9 = .ok (.aload_n 0, 1) := by decide +kernel
theorem dX1_next_10 : decode cX1_next 10 = .ok (.aload_n 0, 1) := by decide +kernel
theorem dX1_next_11 : decode cX1_next 11 = .ok (.getfield 28, 3) := by decide +kernel
theorem dX1_next_14 : decode cX1_next 14 = .ok (.invokevirtual 108, 3) := by decide +kernel
theorem dX1_next_17 : decode cX1_next 17 = .ok (.bipush 32, 2) := by decide +kernel
theorem dX1_next_19 : decode cX1_next 19 = .ok (.if_icmp .eq 16, 3) := by decide +kernel
theorem dX1_next_22 : decode cX1_next 22 = .ok (.aload_n 0, 1) := by decide +kernel
theorem dX1_next_23 : decode cX1_next 23 = .ok (.aload_n 0, 1) := by decide +kernel
theorem dX1_next_24 : decode cX1_next 24 = .ok (.getfield 28, 3) := by decide +kernel
theorem dX1_next_27 : decode cX1_next 27 = .ok (.invokevirtual 108, 3) := by decide +kernel
theorem dX1_next_30 : decode cX1_next 30 = .ok (.bipush 10, 2) := by decide +kernel
theorem dX1_next_32 : decode cX1_next 32 = .ok (.if_icmp .ne 19, 3) := by decide +kernel
theorem dX1_next_35 : decode cX1_next 35 = .ok (.aload_n 0, 1) := by decide +kernel
theorem dX1_next_36 : decode cX1_next 36 = .ok (.dup, 1) := by decide +kernel
theorem dX1_next_37 : decode cX1_next 37 = .ok (.getfield 28, 3) := by decide +kernel
theorem dX1_next_40 : decode cX1_next 40 = .ok (.iconst 1, 1) := by decide +kernel
theorem dX1_next_41 : decode cX1_next 41 = .ok (.iadd, 1) := by decide +kernel
theorem dX1_next_42 : decode cX1_next 42 = .ok (.putfield 28, 3) := by decide +kernel
theorem dX1_next_45 : decode cX1_next 45 = .ok (.iinc 1 1, 3) := by decide +kernel
theorem dX1_next_48 : decode cX1_next 48 = .ok (.goto (-46), 3) := by decide +kernel
theorem dX1_next_51 : decode cX1_next 51 = .ok (.aload_n 0, 1) := by decide +kernel
theorem dX1_next_52 : decode cX1_next 52 = .ok (.aload_n 0, 1) := by decide +kernel
theorem dX1_next_53 : decode cX1_next 53 = .ok (.getfield 28, 3) := by decide +kernel
theorem dX1_next_56 : decode cX1_next 56 = .ok (.putfield 34, 3) := by decide +kernel
theorem dX1_next_59 : decode cX1_next 59 = .ok (.aload_n 0, 1) := by decide +kernel
theorem dX1_next_60 : decode cX1_next 60 = .ok (.aload_n 0, 1) := by decide +kernel
theorem dX1_next_61 : decode cX1_next 61 = .ok (.getfield 28, 3) := by decide +kernel
theorem dX1_next_64 : decode cX1_next 64 = .ok (.invokevirtual 108, 3) := by decide +kernel
theorem dX1_next_67 : decode cX1_next 67 = .ok (.istore_n 1, 1) := by decide +kernel
theorem dX1_next_68 : decode cX1_next 68 = .ok (.iload_n 1, 1) := by decide +kernel
theorem dX1_next_69 : decode cX1_next 69 = .ok (.iconst (-1), 1) := by decide +kernel
theorem dX1_next_70 : decode cX1_next 70 = .ok (.if_icmp .ne 12, 3) := by decide +kernel
theorem dX1_next_73 : decode cX1_next 73 = .ok (.aload_n 0, 1) := by decide +kernel
theorem dX1_next_74 : decode cX1_next 74 = .ok (.bipush 8, 2) := by decide +kernel
theorem dX1_next_76 : decode cX1_next 76 = .ok (.putfield 31, 3) := by decide +kernel
theorem dX1_next_79 : decode cX1_next 79 = .ok (.goto 58, 3) := by decide +kernel
theorem dX1_next_82 : decode cX1_next 82 = .ok (.iload_n 1, 1) := by decide +kernel
theorem dX1_next_83 : decode cX1_next 83 = .ok (.invokestatic 112, 3) := by decide +kernel
theorem dX1_next_86 : decode cX1_next 86 = .ok (.ifCond .eq 10, 3) := by decide +kernel
theorem dX1_next_89 : decode cX1_next 89 = .ok (.aload_n 0, 1) := by decide +kernel
theorem dX1_next_90 : decode cX1_next 90 = .ok (.invokevirtual 115, 3) := by decide +kernel
theorem dX1_next_93 : decode cX1_next 93 = .ok (.goto 44, 3) := by decide +kernel
theorem dX1_next_96 : decode cX1_next 96 = .ok (.iload_n 1, 1) := by decide +kernel
theorem dX1_next_97 : decode cX1_next 97 = .ok (.invokestatic 118, 3) := by decide +kernel
theorem dX1_next_100 : decode cX1_next 100 = .ok (.ifCond .eq 10, 3) := by decide +kernel
theorem dX1_next_103 : decode cX1_next 103 = .ok (.aload_n 0, 1) := by decide +kernel
theorem dX1_next_104 : decode cX1_next 104 = .ok (.invokevirtual 121, 3) := by decide +kernel
theorem dX1_next_107 : decode cX1_next 107 = .ok (.goto 30, 3) := by decide +kernel
theorem dX1_next_110 : decode cX1_next 110 = .ok (.aload_n 0, 1) := by decide +kernel
theorem dX1_next_111 : decode cX1_next 111 = .ok (.dup, 1) := by decide +kernel
theorem dX1_next_112 : decode cX1_next 112 = .ok (.getfield 28, 3) := by decide +kernel
theorem dX1_next_115 : decode cX1_next 115 = .ok (.iconst 1, 1) := by decide +kernel
theorem dX1_next_116 : decode cX1_next 116 = .ok (.iadd, 1) := by decide +kernel
theorem dX1_next_117 : decode cX1_next 117 = .ok (.putfield 28, 3) := by decide +kernel
theorem dX1_next_120 : decode cX1_next 120 = .ok (.aload_n 0, 1) := by decide +kernel
theorem dX1_next_121 : decode cX1_next 121 = .ok (.iload_n 1, 1) := by decide +kernel
theorem dX1_next_122 : decode cX1_next 122 = .ok (.invokestatic 124, 3) := by decide +kernel
theorem dX1_next_125 : decode cX1_next 125 = .ok (.ifCond .eq 7, 3) := by decide +kernel
theorem dX1_next_128 : decode cX1_next 128 = .ok (.iload_n 1, 1) := by decide +kernel
theorem dX1_next_129 : decode cX1_next 129 = .ok (.goto 5, 3) := by decide +kernel
theorem dX1_next_132 : decode cX1_next 132 = .ok (.bipush 9, 2) := by decide +kernel
theorem dX1_next_134 : decode cX1_next 134 = .ok (.putfield 31, 3) := by decide +kernel
theorem dX1_next_137 : decode cX1_next 137 = .ok (.return_, 1) := by decide +kernel
theorem dX1_isLetter_0 : decode cX1_isLetter 0 = .ok (.iload_n 0, 1) := by decide +kernel
theorem dX1_isLetter_1 : decode cX1_isLetter 1 = .ok (.bipush 97, 2) := by decide +kernel
theorem dX1_isLetter_3 : decode cX1_isLetter 3 = .ok (.if_icmp .lt 13, 3) := by decide +kernel
theorem dX1_isLetter_6 : decode cX1_isLetter 6 = .ok (.iload_n 0, 1) := by decide +kernel
theorem dX1_isLetter_7 : decode cX1_isLetter 7 = .ok (.bipush 122, 2) := by decide +kernel
theorem dX1_isLetter_9 : decode cX1_isLetter 9 = .ok (.if_icmp .gt 7, 3) := by decide +kernel
theorem dX1_isLetter_12 : decode cX1_isLetter 12 = .ok (.iconst 1, 1) := by decide +kernel
theorem dX1_isLetter_13 : decode cX1_isLetter 13 = .ok (.goto 4, 3) := by decide +kernel
theorem dX1_isLetter_16 : decode cX1_isLetter 16 = .ok (.iconst 0, 1) := by decide +kernel
theorem dX1_isLetter_17 : decode cX1_isLetter 17 = .ok (.ireturn, 1) := by decide +kernel
theorem dX1_isDigit_0 : decode cX1_isDigit 0 = .ok (.iload_n 0, 1) := by decide +kernel
theorem dX1_isDigit_1 : decode cX1_isDigit 1 = .ok (.bipush 48, 2) := by decide +kernel
theorem dX1_isDigit_3 : decode cX1_isDigit 3 = .ok (.if_icmp .lt 13, 3) := by decide +kernel
theorem dX1_isDigit_6 : decode cX1_isDigit 6 = .ok (.iload_n 0, 1) := by decide +kernel
theorem dX1_isDigit_7 : decode cX1_isDigit 7 = .ok (.bipush 57, 2) := by decide +kernel
theorem dX1_isDigit_9 : decode cX1_isDigit 9 = .ok (.if_icmp .gt 7, 3) := by decide +kernel
theorem dX1_isDigit_12 : decode cX1_isDigit 12 = .ok (.iconst 1, 1) := by decide +kernel
theorem dX1_isDigit_13 : decode cX1_isDigit 13 = .ok (.goto 4, 3) := by decide +kernel
theorem dX1_isDigit_16 : decode cX1_isDigit 16 = .ok (.iconst 0, 1) := by decide +kernel
theorem dX1_isDigit_17 : decode cX1_isDigit 17 = .ok (.ireturn, 1) := by decide +kernel
theorem dX1_isSign_0 : decode cX1_isSign 0 = .ok (.iload_n 0, 1) := by decide +kernel
theorem dX1_isSign_1 : decode cX1_isSign 1 = .ok (.bipush 40, 2) := by decide +kernel
theorem dX1_isSign_3 : decode cX1_isSign 3 = .ok (.if_icmp .eq 45, 3) := by decide +kernel
theorem dX1_isSign_6 : decode cX1_isSign 6 = .ok (.iload_n 0, 1) := by decide +kernel
theorem dX1_isSign_7 : decode cX1_isSign 7 = .ok (.bipush 41, 2) := by decide +kernel
theorem dX1_isSign_9 : decode cX1_isSign 9 = .ok (.if_icmp .eq 39, 3) := by decide +kernel
theorem dX1_isSign_12 : decode cX1_isSign 12 = .ok (.iload_n 0, 1) := by decide +kernel
theorem dX1_isSign_13 : decode cX1_isSign 13 = .ok (.bipush 59, 2) := by decide +kernel
theorem dX1_isSign_15 : decode cX1_isSign 15 = .ok (.if_icmp .eq 33, 3) := by decide +kernel
theorem dX1_isSign_18 : decode cX1_isSign 18 = .ok (.iload_n 0, 1) := by decide +kernel
theorem dX1_isSign_19 : decode cX1_isSign 19 = .ok (.bipush 43, 2) := by decide +kernel
theorem dX1_isSign_21 : decode cX1_isSign 21 = .ok (.if_icmp .eq 27, 3) := by decide +kernel
theorem dX1_isSign_24 : decode cX1_isSign 24 = .ok (.iload_n 0, 1) := by decide +kernel
theorem dX1_isSign_25 : decode cX1_isSign 25 = .ok (.bipush 45, 2) := by decide +kernel
theorem dX1_isSign_27 : decode cX1_isSign 27 = .ok (.if_icmp .eq 21, 3) := by decide +kernel
theorem dX1_isSign_30 : decode cX1_isSign 30 = .ok (.iload_n 0, 1) := by decide +kernel
theorem dX1_isSign_31 : decode cX1_isSign 31 = .ok (.bipush 42, 2) := by decide +kernel
theorem dX1_isSign_33 : decode cX1_isSign 33 = .ok (.if_icmp .eq 15, 3) := by decide +kernel
theorem dX1_isSign_36 : decode cX1_isSign 36 = .ok (.iload_n 0, 1) := by decide +kernel
theorem dX1_isSign_37 : decode cX1_isSign 37 = .ok (.bipush 60, 2) := by decide +kernel
theorem dX1_isSign_39 : decode cX1_isSign 39 = .ok (.if_icmp .eq 9, 3) := by decide +kernel
theorem dX1_isSign_42 : decode cX1_isSign 42 = .ok (.iload_n 0, 1) := by decide +kernel
theorem dX1_isSign_43 : decode cX1_isSign 43 = .ok (.bipush 61, 2) := by decide +kernel
theorem dX1_isSign_45 : decode cX1_isSign 45 = .ok (.if_icmp .ne 7, 3) := by decide +kernel
theorem dX1_isSign_48 : decode cX1_isSign 48 = .ok (.iconst 1, 1) := by decide +kernel
theorem dX1_isSign_49 : decode cX1_isSign 49 = .ok (.goto 4, 3) := by decide +kernel
theorem dX1_isSign_52 : decode cX1_isSign 52 = .ok (.iconst 0, 1) := by decide +kernel
theorem dX1_isSign_53 : decode cX1_isSign 53 = .ok (.ireturn, 1) := by decide +kernel
theorem dX1_readNumber_0 : decode cX1_readNumber 0 = .ok (.iconst 0, 1) := by decide +kernel
theorem dX1_readNumber_1 : decode cX1_readNumber 1 = .ok (.istore_n 1, 1) := by decide +kernel
theorem dX1_readNumber_2 : decode cX1_readNumber 2 = .ok (.aload_n 0, 1) := by decide +kernel
theorem dX1_readNumber_3 : decode cX1_readNumber 3 = .ok (.iconst 0, 1) := by decide +kernel
theorem dX1_readNumber_4 : decode cX1_readNumber 4 = .ok (.putfield 37, 3) := by decide +kernel
theorem dX1_readNumber_7 : decode cX1_readNumber 7 = .ok (.iconst 0, 1) := by decide +kernel
theorem dX1_readNumber_8 : decode cX1_readNumber 8 = .ok (.istore_n 2, 1) := by decide +kernel
theorem dX1_readNumber_9 : decode cX1_readNumber 9 = .ok (.iload_n 2, 1) := by decide +kernel
theorem dX1_readNumber_10 : decode cX1_readNumber 10 = .ok (.sipush 160, 3) := by decide +kernel
theorem dX1_readNumber_13 : decode cX1_readNumber 13 = .ok (.if_icmp .ge 71, 3) := by decide +kernel
theorem dX1_readNumber_16 : decode cX1_readNumber 16 = .ok (.aload_n 0, 1) := by decide +kernel
theorem dX1_readNumber_17 : decode cX1_readNumber 17 = .ok (.aload_n 0, 1) := by decide +kernel
theorem dX1_readNumber_18 : decode cX1_readNumber 18 = .ok (.getfield 28, 3) := by decide +kernel
theorem dX1_readNumber_21 : decode cX1_readNumber 21 = .ok (.invokevirtual 108, 3) := by decide +kernel
theorem dX1_readNumber_24 : decode cX1_readNumber 24 = .ok (.invokestatic 118, 3) := by decide +kernel
theorem dX1_readNumber_27 : decode cX1_readNumber 27 = .ok (.ifCond .eq 57, 3) := by decide +kernel
theorem dX1_readNumber_30 : decode cX1_readNumber 30 = .ok (.iinc 1 1, 3) := by decide +kernel
theorem dX1_readNumber_33 : decode cX1_readNumber 33 = .ok (.aload_n 0, 1) := by decide +kernel
theorem dX1_readNumber_34 : decode cX1_readNumber 34 = .ok (.iload_n 1, 1) := by decide +kernel
theorem dX1_readNumber_35 : decode cX1_readNumber 35 = .ok (.iconst 4, 1) := by decide +kernel
theorem dX1_readNumber_36 : decode cX1_readNumber 36 = .ok (.if_icmp .le 10, 3) := by decide +kernel
theorem dX1_readNumber_39 : decode cX1_readNumber 39 = .ok (.aload_n 0, 1) := by decide +kernel
theorem dX1_readNumber_40 : decode cX1_readNumber 40 = .ok (.getfield 37, 3) := by decide +kernel
theorem dX1_readNumber_43 : decode cX1_readNumber 43 = .ok (.goto 22, 3) := by decide +kernel
theorem dX1_readNumber_46 : decode cX1_readNumber 46 = .ok (.aload_n 0, 1) := by decide +kernel
theorem dX1_readNumber_47 : decode cX1_readNumber 47 = .ok (.getfield 37, 3) := by decide +kernel
theorem dX1_readNumber_50 : decode cX1_readNumber 50 = .ok (.bipush 10, 2) := by decide +kernel
theorem dX1_readNumber_52 : decode cX1_readNumber 52 = .ok (.imul, 1) := by decide +kernel
theorem dX1_readNumber_53 : decode cX1_readNumber 53 = .ok (.aload_n 0, 1) := by decide +kernel
theorem dX1_readNumber_54 : decode cX1_readNumber 54 = .ok (.aload_n 0, 1) := by decide +kernel
theorem dX1_readNumber_55 : decode cX1_readNumber 55 = .ok (.getfield 28, 3) := by decide +kernel
theorem dX1_readNumber_58 : decode cX1_readNumber 58 = .ok (.invokevirtual 108, 3) := by decide +kernel
theorem dX1_readNumber_61 : decode cX1_readNumber 61 = .ok (.iadd, 1) := by decide +kernel
theorem dX1_readNumber_62 : decode cX1_readNumber 62 = .ok (.bipush 48, 2) := by decide +kernel
theorem dX1_readNumber_64 : decode cX1_readNumber 64 = .ok (.isub, 1) := by decide +kernel
theorem dX1_readNumber_65 : decode cX1_readNumber 65 = .ok (.putfield 37, 3) := by decide +kernel
theorem dX1_readNumber_68 : decode cX1_readNumber 68 = .ok (.aload_n 0, 1) := by decide +kernel
theorem dX1_readNumber_69 : decode cX1_readNumber 69 = .ok (.dup, 1) := by decide +kernel
theorem dX1_readNumber_70 : decode cX1_readNumber 70 = .ok (.getfield 28, 3) := by decide +kernel
theorem dX1_readNumber_73 : decode cX1_readNumber 73 = .ok (.iconst 1, 1) := by decide +kernel
theorem dX1_readNumber_74 : decode cX1_readNumber 74 = .ok (.iadd, 1) := by decide +kernel
theorem dX1_readNumber_75 : decode cX1_readNumber 75 = .ok (.putfield 28, 3) := by decide +kernel
theorem dX1_readNumber_78 : decode cX1_readNumber 78 = .ok (.iinc 2 1, 3) := by decide +kernel
theorem dX1_readNumber_81 : decode cX1_readNumber 81 = .ok (.goto (-72), 3) := by decide +kernel
theorem dX1_readNumber_84 : decode cX1_readNumber 84 = .ok (.aload_n 0, 1) := by decide +kernel
theorem dX1_readNumber_85 : decode cX1_readNumber 85 = .ok (.iload_n 1, 1) := by decide +kernel
theorem dX1_readNumber_86 : decode cX1_readNumber 86 = .ok (.iconst 4, 1) := by decide +kernel
theorem dX1_readNumber_87 : decode cX1_readNumber 87 = .ok (.if_icmp .le 8, 3) := by decide +kernel
theorem dX1_readNumber_90 : decode cX1_readNumber 90 = .ok (.bipush 9, 2) := by decide +kernel
theorem dX1_readNumber_92 : decode cX1_readNumber 92 = .ok (.goto 5, 3) := by decide +kernel
theorem dX1_readNumber_95 : decode cX1_readNumber 95 = .ok (.bipush 7, 2) := by decide +kernel
theorem dX1_readNumber_97 : decode cX1_readNumber 97 = .ok (.putfield 31, 3) := by decide +kernel
theorem dX1_readNumber_100 : decode cX1_readNumber 100 = .ok (.return_, 1) := by decide +kernel
theorem dX1_readWord_0 : decode cX1_readWord 0 = .ok (.iconst 0, 1) := by decide +kernel
theorem dX1_readWord_1 : decode cX1_readWord 1 = .ok (.istore_n 1, 1) := by decide +kernel
theorem dX1_readWord_2 : decode cX1_readWord 2 = .ok (.iload_n 1, 1) := by decide +kernel
theorem dX1_readWord_3 : decode cX1_readWord 3 = .ok (.sipush 160, 3) := by decide +kernel
theorem dX1_readWord_6 : decode cX1_readWord 6 = .ok (.if_icmp .ge 33, 3) := by decide +kernel
theorem dX1_readWord_9 : decode cX1_readWord 9 = .ok (.aload_n 0, 1) := by decide +kernel
theorem dX1_readWord_10 : decode cX1_readWord 10 = .ok (.aload_n 0, 1) := by decide +kernel
theorem dX1_readWord_11 : decode cX1_readWord 11 = .ok (.getfield 28, 3) := by decide +kernel
theorem dX1_readWord_14 : decode cX1_readWord 14 = .ok (.invokevirtual 108, 3) := by decide +kernel
theorem dX1_readWord_17 : decode cX1_readWord 17 = .ok (.invokestatic 112, 3) := by decide +kernel
theorem dX1_readWord_20 : decode cX1_readWord 20 = .ok (.ifCond .eq 19, 3) := by decide +kernel
theorem dX1_readWord_23 : decode cX1_readWord 23 = .ok (.aload_n 0, 1) := by decide +kernel
theorem dX1_readWord_24 : decode cX1_readWord 24 = .ok (.dup, 1) := by decide +kernel
theorem dX1_readWord_25 : decode cX1_readWord 25 = .ok (.getfield 28, 3) := by decide +kernel
theorem dX1_readWord_28 : decode cX1_readWord 28 = .ok (.iconst 1, 1) := by decide +kernel
theorem dX1_readWord_29 : decode cX1_readWord 29 = .ok (.iadd, 1) := by decide +kernel
theorem dX1_readWord_30 : decode cX1_readWord 30 = .ok (.putfield 28, 3) := by decide +kernel
theorem dX1_readWord_33 : decode cX1_readWord 33 = .ok (.iinc 1 1, 3) := by decide +kernel
theorem dX1_readWord_36 : decode cX1_readWord 36 = .ok (.goto (-34), 3) := by decide +kernel
theorem dX1_readWord_39 : decode cX1_readWord 39 = .ok (.aload_n 0, 1) := by decide +kernel
theorem dX1_readWord_40 : decode cX1_readWord 40 = .ok (.aload_n 0, 1) := by decide +kernel
theorem dX1_readWord_41 : decode cX1_readWord 41 = .ok (.ldc 127, 2) := by decide +kernel
theorem dX1_readWord_43 : decode cX1_readWord 43 = .ok (.invokevirtual 129, 3) := by decide +kernel
theorem dX1_readWord_46 : decode cX1_readWord 46 = .ok (.ifCond .eq 7, 3) := by decide +kernel
theorem dX1_readWord_49 : decode cX1_readWord 49 = .ok (.iconst 1, 1) := by decide +kernel
theorem dX1_readWord_50 : decode cX1_readWord 50 = .ok (.goto 155, 3) := by decide +kernel
theorem dX1_readWord_53 : decode cX1_readWord 53 = .ok (.aload_n 0, 1) := by decide +kernel
theorem dX1_readWord_54 : decode cX1_readWord 54 = .ok (.ldc 133, 2) := by decide +kernel
theorem dX1_readWord_56 : decode cX1_readWord 56 = .ok (.invokevirtual 129, 3) := by decide +kernel
theorem dX1_readWord_59 : decode cX1_readWord 59 = .ok (.ifCond .eq 7, 3) := by decide +kernel
theorem dX1_readWord_62 : decode cX1_readWord 62 = .ok (.iconst 2, 1) := by decide +kernel
theorem dX1_readWord_63 : decode cX1_readWord 63 = .ok (.goto 142, 3) := by decide +kernel
theorem dX1_readWord_66 : decode cX1_readWord 66 = .ok (.aload_n 0, 1) := by decide +kernel
theorem dX1_readWord_67 : decode cX1_readWord 67 = .ok (.ldc 135, 2) := by decide +kernel
theorem dX1_readWord_69 : decode cX1_readWord 69 = .ok (.invokevirtual 129, 3) := by decide +kernel
theorem dX1_readWord_72 : decode cX1_readWord 72 = .ok (.ifCond .eq 7, 3) := by decide +kernel
theorem dX1_readWord_75 : decode cX1_readWord 75 = .ok (.iconst 3, 1) := by decide +kernel
theorem dX1_readWord_76 : decode cX1_readWord 76 = .ok (.goto 129, 3) := by decide +kernel
theorem dX1_readWord_79 : decode cX1_readWord 79 = .ok (.aload_n 0, 1) := by decide +kernel
theorem dX1_readWord_80 : decode cX1_readWord 80 = .ok (.ldc 137, 2) := by decide +kernel
theorem dX1_readWord_82 : decode cX1_readWord 82 = .ok (.invokevirtual 129, 3) := by decide +kernel
theorem dX1_readWord_85 : decode cX1_readWord 85 = .ok (.ifCond .eq 7, 3) := by decide +kernel
theorem dX1_readWord_88 : decode cX1_readWord 88 = .ok (.iconst 4, 1) := by decide +kernel
theorem dX1_readWord_89 : decode cX1_readWord 89 = .ok (.goto 116, 3) := by decide +kernel
theorem dX1_readWord_92 : decode cX1_readWord 92 = .ok (.aload_n 0, 1) := by decide +kernel
theorem dX1_readWord_93 : decode cX1_readWord 93 = .ok (.ldc 139, 2) := by decide +kernel
theorem dX1_readWord_95 : decode cX1_readWord 95 = .ok (.invokevirtual 129, 3) := by decide +kernel
theorem dX1_readWord_98 : decode cX1_readWord 98 = .ok (.ifCond .eq 7, 3) := by decide +kernel
theorem dX1_readWord_101 : decode cX1_readWord 101 = .ok (.iconst 5, 1) := by decide +kernel
theorem dX1_readWord_102 : decode cX1_readWord 102 = .ok (.goto 103, 3) := by decide +kernel
theorem dX1_readWord_105 : decode cX1_readWord 105 = .ok (.aload_n 0, 1) := by decide +kernel
theorem dX1_readWord_106 : decode cX1_readWord 106 = .ok (.ldc 141, 2) := by decide +kernel
theorem dX1_readWord_108 : decode cX1_readWord 108 = .ok (.invokevirtual 129, 3) := by decide +kernel
theorem dX1_readWord_111 : decode cX1_readWord 111 = .ok (.ifCond .eq 8, 3) := by decide +kernel
theorem dX1_readWord_114 : decode cX1_readWord 114 = .ok (.bipush 6, 2) := by decide +kernel
theorem dX1_readWord_116 : decode cX1_readWord 116 = .ok (.goto 89, 3) := by decide +kernel
theorem dX1_readWord_119 : decode cX1_readWord 119 = .ok (.aload_n 0, 1) := by decide +kernel
theorem dX1_readWord_120 : decode cX1_readWord 120 = .ok (.ldc 143, 2) := by decide +kernel
theorem dX1_readWord_122 : decode cX1_readWord 122 = .ok (.invokevirtual 129, 3) := by decide +kernel
theorem dX1_readWord_125 : decode cX1_readWord 125 = .ok (.ifCond .eq 8, 3) := by decide +kernel
theorem dX1_readWord_128 : decode cX1_readWord 128 = .ok (.bipush 10, 2) := by decide +kernel
theorem dX1_readWord_130 : decode cX1_readWord 130 = .ok (.goto 75, 3) := by decide +kernel
theorem dX1_readWord_133 : decode cX1_readWord 133 = .ok (.aload_n 0, 1) := by decide +kernel
theorem dX1_readWord_134 : decode cX1_readWord 134 = .ok (.ldc 145, 2) := by decide +kernel
theorem dX1_readWord_136 : decode cX1_readWord 136 = .ok (.invokevirtual 129, 3) := by decide +kernel
theorem dX1_readWord_139 : decode cX1_readWord 139 = .ok (.ifCond .eq 8, 3) := by decide +kernel
theorem dX1_readWord_142 : decode cX1_readWord 142 = .ok (.bipush 11, 2) := by decide +kernel
theorem dX1_readWord_144 : decode cX1_readWord 144 = .ok (.goto 61, 3) := by decide +kernel
theorem dX1_readWord_147 : decode cX1_readWord 147 = .ok (.aload_n 0, 1) := by decide +kernel
theorem dX1_readWord_148 : decode cX1_readWord 148 = .ok (.ldc 147, 2) := by decide +kernel
theorem dX1_readWord_150 : decode cX1_readWord 150 = .ok (.invokevirtual 129, 3) := by decide +kernel
theorem dX1_readWord_153 : decode cX1_readWord 153 = .ok (.ifCond .eq 8, 3) := by decide +kernel
theorem dX1_readWord_156 : decode cX1_readWord 156 = .ok (.bipush 12, 2) := by decide +kernel
theorem dX1_readWord_158 : decode cX1_readWord 158 = .ok (.goto 47, 3) := by decide +kernel
theorem dX1_readWord_161 : decode cX1_readWord 161 = .ok (.aload_n 0, 1) := by decide +kernel
theorem dX1_readWord_162 : decode cX1_readWord 162 = .ok (.ldc 149, 2) := by decide +kernel
theorem dX1_readWord_164 : decode cX1_readWord 164 = .ok (.invokevirtual 129, 3) := by decide +kernel
theorem dX1_readWord_167 : decode cX1_readWord 167 = .ok (.ifCond .eq 8, 3) := by decide +kernel
theorem dX1_readWord_170 : decode cX1_readWord 170 = .ok (.bipush 13, 2) := by decide +kernel
theorem dX1_readWord_172 : decode cX1_readWord 172 = .ok (.goto 33, 3) := by decide +kernel
theorem dX1_readWord_175 : decode cX1_readWord 175 = .ok (.aload_n 0, 1) := by decide +kernel
theorem dX1_readWord_176 : decode cX1_readWord 176 = .ok (.ldc 151, 2) := by decide +kernel
theorem dX1_readWord_178 : decode cX1_readWord 178 = .ok (.invokevirtual 129, 3) := by decide +kernel
theorem dX1_readWord_181 : decode cX1_readWord 181 = .ok (.ifCond .eq 8, 3) := by decide +kernel
theorem dX1_readWord_184 : decode cX1_readWord 184 = .ok (.bipush 14, 2) := by decide +kernel
theorem dX1_readWord_186 : decode cX1_readWord 186 = .ok (.goto 19, 3) := by decide +kernel
theorem dX1_readWord_189 : decode cX1_readWord 189 = .ok (.aload_n 0, 1) := by decide +kernel
theorem dX1_readWord_190 : decode cX1_readWord 190 = .ok (.ldc 153, 2) := by decide +kernel
theorem dX1_readWord_192 : decode cX1_readWord 192 = .ok (.invokevirtual 129, 3) := by decide +kernel
theorem dX1_readWord_195 : decode cX1_readWord 195 = .ok (.ifCond .eq 8, 3) := by decide +kernel
theorem dX1_readWord_198 : decode cX1_readWord 198 = .ok (.bipush 15, 2) := by decide +kernel
theorem dX1_readWord_200 : decode cX1_readWord 200 = .ok (.goto 5, 3) := by decide +kernel
theorem dX1_readWord_203 : decode cX1_readWord 203 = .ok (.bipush 9, 2) := by decide +kernel
theorem dX1_readWord_205 : decode cX1_readWord 205 = .ok (.putfield 31, 3) := by decide +kernel
theorem dX1_readWord_208 : decode cX1_readWord 208 = .ok (.return_, 1) := by decide +kernel
theorem dX1_stands_0 : decode cX1_stands 0 = .ok (.aload_n 0, 1) := by decide +kernel
theorem dX1_stands_1 : decode cX1_stands 1 = .ok (.getfield 34, 3) := by decide +kernel
theorem dX1_stands_4 : decode cX1_stands 4 = .ok (.ifCond .lt 29, 3) := by decide +kernel
theorem dX1_stands_7 : decode cX1_stands 7 = .ok (.aload_n 0, 1) := by decide +kernel
theorem dX1_stands_8 : decode cX1_stands 8 = .ok (.getfield 28, 3) := by decide +kernel
theorem dX1_stands_11 : decode cX1_stands 11 = .ok (.sipush 160, 3) := by decide +kernel
theorem dX1_stands_14 : decode cX1_stands 14 = .ok (.if_icmp .gt 19, 3) := by decide +kernel
theorem dX1_stands_17 : decode cX1_stands 17 = .ok (.aload_n 0, 1) := by decide +kernel
theorem dX1_stands_18 : decode cX1_stands 18 = .ok (.getfield 28, 3) := by decide +kernel
theorem dX1_stands_21 : decode cX1_stands 21 = .ok (.aload_n 0, 1) := by decide +kernel
theorem dX1_stands_22 : decode cX1_stands 22 = .ok (.getfield 34, 3) := by decide +kernel
theorem dX1_stands_25 : decode cX1_stands 25 = .ok (.isub, 1) := by decide +kernel
theorem dX1_stands_26 : decode cX1_stands 26 = .ok (.aload_n 1, 1) := by decide +kernel
theorem dX1_stands_27 : decode cX1_stands 27 = .ok (.invokevirtual 40, 3) := by decide +kernel
theorem dX1_stands_30 : decode cX1_stands 30 = .ok (.if_icmp .eq 5, 3) := by decide +kernel
theorem dX1_stands_33 : decode cX1_stands 33 = .ok (.iconst 0, 1) := by decide +kernel
theorem dX1_stands_34 : decode cX1_stands 34 = .ok (.ireturn, 1) := by decide +kernel
theorem dX1_stands_35 : decode cX1_stands 35 = .ok (.iconst 0, 1) := by decide +kernel
theorem dX1_stands_36 : decode cX1_stands 36 = .ok (.istore_n 2, 1) := by decide +kernel
theorem dX1_stands_37 : decode cX1_stands 37 = .ok (.iload_n 2, 1) := by decide +kernel
theorem dX1_stands_38 : decode cX1_stands 38 = .ok (.aload_n 1, 1) := by decide +kernel
theorem dX1_stands_39 : decode cX1_stands 39 = .ok (.invokevirtual 40, 3) := by decide +kernel
theorem dX1_stands_42 : decode cX1_stands 42 = .ok (.if_icmp .ge 30, 3) := by decide +kernel
theorem dX1_stands_45 : decode cX1_stands 45 = .ok (.aload_n 0, 1) := by decide +kernel
theorem dX1_stands_46 : decode cX1_stands 46 = .ok (.getfield 9, 3) := by decide +kernel
theorem dX1_stands_49 : decode cX1_stands 49 = .ok (.aload_n 0, 1) := by decide +kernel
theorem dX1_stands_50 : decode cX1_stands 50 = .ok (.getfield 34, 3) := by decide +kernel
theorem dX1_stands_53 : decode cX1_stands 53 = .ok (.iload_n 2, 1) := by decide +kernel
theorem dX1_stands_54 : decode cX1_stands 54 = .ok (.iadd, 1) := by decide +kernel
theorem dX1_stands_55 : decode cX1_stands 55 = .ok (.iaload, 1) := by decide +kernel
theorem dX1_stands_56 : decode cX1_stands 56 = .ok (.aload_n 1, 1) := by decide +kernel
theorem dX1_stands_57 : decode cX1_stands 57 = .ok (.iload_n 2, 1) := by decide +kernel
theorem dX1_stands_58 : decode cX1_stands 58 = .ok (.invokevirtual 46, 3) := by decide +kernel
theorem dX1_stands_61 : decode cX1_stands 61 = .ok (.if_icmp .eq 5, 3) := by decide +kernel
theorem dX1_stands_64 : decode cX1_stands 64 = .ok (.iconst 0, 1) := by decide +kernel
theorem dX1_stands_65 : decode cX1_stands 65 = .ok (.ireturn, 1) := by decide +kernel
theorem dX1_stands_66 : decode cX1_stands 66 = .ok (.iinc 2 1, 3) := by decide +kernel
theorem dX1_stands_69 : decode cX1_stands 69 = .ok (.goto (-32), 3) := by decide +kernel
theorem dX1_stands_72 : decode cX1_stands 72 = .ok (.iconst 1, 1) := by decide +kernel
theorem dX1_stands_73 : decode cX1_stands 73 = .ok (.ireturn, 1) := by decide +kernel
theorem dX2_init_0 : decode cX2_init 0 = .ok (.aload_n 0, 1) := by decide +kernel
theorem dX2_init_1 : decode cX2_init 1 = .ok (.invokespecial 3, 3) := by decide +kernel
theorem dX2_init_4 : decode cX2_init 4 = .ok (.aload_n 0, 1) := by decide +kernel
theorem dX2_init_5 : decode cX2_init 5 = .ok (.bipush 40, 2) := by decide +kernel
theorem dX2_init_7 : decode cX2_init 7 = .ok (.newarray .int, 2) := by decide +kernel
theorem dX2_init_9 : decode cX2_init 9 = .ok (.putfield 9, 3) := by decide +kernel
theorem dX2_init_12 : decode cX2_init 12 = .ok (.aload_n 0, 1) := by decide +kernel
theorem dX2_init_13 : decode cX2_init 13 = .ok (.iconst (-1), 1) := by decide +kernel
theorem dX2_init_14 : decode cX2_init 14 = .ok (.putfield 15, 3) := by decide +kernel
theorem dX2_init_17 : decode cX2_init 17 = .ok (.aload_n 0, 1) := by decide +kernel
theorem dX2_init_18 : decode cX2_init 18 = .ok (.iconst 0, 1) := by decide +kernel
theorem dX2_init_19 : decode cX2_init 19 = .ok (.putfield 19, 3) := by decide +kernel
theorem dX2_init_22 : decode cX2_init 22 = .ok (.return_, 1) := by decide +kernel
theorem dX2_isMissing_0 : decode cX2_isMissing 0 = .ok (.aload_n 0, 1) := by decide +kernel
theorem dX2_isMissing_1 : decode cX2_isMissing 1 = .ok (.getfield 15, 3) := by decide +kernel
theorem dX2_isMissing_4 : decode cX2_isMissing 4 = .ok (.iconst (-1), 1) := by decide +kernel
theorem dX2_isMissing_5 : decode cX2_isMissing 5 = .ok (.if_icmp .ne 7, 3) := by decide +kernel
theorem dX2_isMissing_8 : decode cX2_isMissing 8 = .ok (.iconst 1, 1) := by decide +kernel
theorem dX2_isMissing_9 : decode cX2_isMissing 9 = .ok (.goto 4, 3) := by decide +kernel
theorem dX2_isMissing_12 : decode cX2_isMissing 12 = .ok (.iconst 0, 1) := by decide +kernel
theorem dX2_isMissing_13 : decode cX2_isMissing 13 = .ok (.ireturn, 1) := by decide +kernel
theorem dX2_becomes_0 : decode cX2_becomes 0 = .ok (.aload_n 0, 1) := by decide +kernel
theorem dX2_becomes_1 : decode cX2_becomes 1 = .ok (.iload_n 1, 1) := by decide +kernel
theorem dX2_becomes_2 : decode cX2_becomes 2 = .ok (.putfield 15, 3) := by decide +kernel
theorem dX2_becomes_5 : decode cX2_becomes 5 = .ok (.aload_n 0, 1) := by decide +kernel
theorem dX2_becomes_6 : decode cX2_becomes 6 = .ok (.iload_n 2, 1) := by decide +kernel
theorem dX2_becomes_7 : decode cX2_becomes 7 = .ok (.iconst 0, 1) := by decide +kernel
theorem dX2_becomes_8 : decode cX2_becomes 8 = .ok (.bipush 40, 2) := by decide +kernel
theorem dX2_becomes_10 : decode cX2_becomes 10 = .ok (.invokestatic 22, 3) := by decide +kernel
theorem dX2_becomes_13 : decode cX2_becomes 13 = .ok (.putfield 19, 3) := by decide +kernel
theorem dX2_becomes_16 : decode cX2_becomes 16 = .ok (.iconst 0, 1) := by decide +kernel
theorem dX2_becomes_17 : decode cX2_becomes 17 = .ok (.istore_n 3, 1) := by decide +kernel
theorem dX2_becomes_18 : decode cX2_becomes 18 = .ok (.iload_n 3, 1) := by decide +kernel
theorem dX2_becomes_19 : decode cX2_becomes 19 = .ok (.bipush 40, 2) := by decide +kernel
theorem dX2_becomes_21 : decode cX2_becomes 21 = .ok (.if_icmp .ge 16, 3) := by decide +kernel
theorem dX2_becomes_24 : decode cX2_becomes 24 = .ok (.aload_n 0, 1) := by decide +kernel
theorem dX2_becomes_25 : decode cX2_becomes 25 = .ok (.getfield 9, 3) := by decide +kernel
theorem dX2_becomes_28 : decode cX2_becomes 28 = .ok (.iload_n 3, 1) := by decide +kernel
theorem dX2_becomes_29 : decode cX2_becomes 29 = .ok (.iconst 0, 1) := by decide +kernel
theorem dX2_becomes_30 : decode cX2_becomes 30 = .ok (.iastore, 1) := by decide +kernel
theorem dX2_becomes_31 : decode cX2_becomes 31 = .ok (.iinc 3 1, 3) := by decide +kernel
theorem dX2_becomes_34 : decode cX2_becomes 34 = .ok (.goto (-16), 3) := by decide +kernel
theorem dX2_becomes_37 : decode cX2_becomes 37 = .ok (.return_, 1) := by decide +kernel
theorem dX2_holds_0 : decode cX2_holds 0 = .ok (.iload_n 1, 1) := by decide +kernel
theorem dX2_holds_1 : decode cX2_holds 1 = .ok (.ifCond .lt 29, 3) := by decide +kernel
theorem dX2_holds_4 : decode cX2_holds 4 = .ok (.iload_n 2, 1) := by decide +kernel
theorem dX2_holds_5 : decode cX2_holds 5 = .ok (.ifCond .lt 25, 3) := by decide +kernel
theorem dX2_holds_8 : decode cX2_holds 8 = .ok (.iload_n 2, 1) := by decide +kernel
theorem dX2_holds_9 : decode cX2_holds 9 = .ok (.aload_n 0, 1) := by decide +kernel
theorem dX2_holds_10 : decode cX2_holds 10 = .ok (.getfield 19, 3) := by decide +kernel
theorem dX2_holds_13 : decode cX2_holds 13 = .ok (.if_icmp .gt 17, 3) := by decide +kernel
theorem dX2_holds_16 : decode cX2_holds 16 = .ok (.iload_n 1, 1) := by decide +kernel
theorem dX2_holds_17 : decode cX2_holds 17 = .ok (.aload_n 0, 1) := by decide +kernel
theorem dX2_holds_18 : decode cX2_holds 18 = .ok (.getfield 19, 3) := by decide +kernel
theorem dX2_holds_21 : decode cX2_holds 21 = .ok (.iload_n 2, 1) := by decide +kernel
theorem dX2_holds_22 : decode cX2_holds 22 = .ok (.isub, 1) := by decide +kernel
theorem dX2_holds_23 : decode cX2_holds 23 = .ok (.if_icmp .gt 7, 3) := by decide +kernel
theorem dX2_holds_26 : decode cX2_holds 26 = .ok (.iconst 1, 1) := by decide +kernel
theorem dX2_holds_27 : decode cX2_holds 27 = .ok (.goto 4, 3) := by decide +kernel
theorem dX2_holds_30 : decode cX2_holds 30 = .ok (.iconst 0, 1) := by decide +kernel
theorem dX2_holds_31 : decode cX2_holds 31 = .ok (.ireturn, 1) := by decide +kernel
theorem dX2_item_0 : decode cX2_item 0 = .ok (.iload_n 1, 1) := by decide +kernel
theorem dX2_item_1 : decode cX2_item 1 = .ok (.ifCond .lt 26, 3) := by decide +kernel
theorem dX2_item_4 : decode cX2_item 4 = .ok (.iload_n 1, 1) := by decide +kernel
theorem dX2_item_5 : decode cX2_item 5 = .ok (.aload_n 0, 1) := by decide +kernel
theorem dX2_item_6 : decode cX2_item 6 = .ok (.getfield 19, 3) := by decide +kernel
theorem dX2_item_9 : decode cX2_item 9 = .ok (.if_icmp .ge 18, 3) := by decide +kernel
theorem dX2_item_12 : decode cX2_item 12 = .ok (.iload_n 1, 1) := by decide +kernel
theorem dX2_item_13 : decode cX2_item 13 = .ok (.bipush 40, 2) := by decide +kernel
theorem dX2_item_15 : decode cX2_item 15 = .ok (.if_icmp .ge 12, 3) := by decide +kernel
theorem dX2_item_18 : decode cX2_item 18 = .ok (.aload_n 0, 1) := by decide +kernel
theorem dX2_item_19 : decode cX2_item 19 = .ok (.getfield 9, 3) := by decide +kernel
theorem dX2_item_22 : decode cX2_item 22 = .ok (.iload_n 1, 1) := by decide +kernel
theorem dX2_item_23 : decode cX2_item 23 = .ok (.iaload, 1) := by decide +kernel
theorem dX2_item_24 : decode cX2_item 24 = .ok (.goto 4, 3) := by decide +kernel
theorem dX2_item_27 : decode cX2_item 27 = .ok (.iconst 0, 1) := by decide +kernel
theorem dX2_item_28 : decode cX2_item 28 = .ok (.ireturn, 1) := by decide +kernel
theorem dX2_put_0 : decode cX2_put 0 = .ok (.iload_n 1, 1) := by decide +kernel
theorem dX2_put_1 : decode cX2_put 1 = .ok (.ifCond .lt 49, 3) := by decide +kernel
theorem dX2_put_4 : decode cX2_put 4 = .ok (.iload_n 1, 1) := by decide +kernel
theorem dX2_put_5 : decode cX2_put 5 = .ok (.aload_n 0, 1) := by decide +kernel
theorem dX2_put_6 : decode cX2_put 6 = .ok (.getfield 19, 3) := by decide +kernel
theorem dX2_put_9 : decode cX2_put 9 = .ok (.if_icmp .ge 41, 3) := by decide +kernel
theorem dX2_put_12 : decode cX2_put 12 = .ok (.iload_n 1, 1) := by decide +kernel
theorem dX2_put_13 : decode cX2_put 13 = .ok (.bipush 40, 2) := by decide +kernel
theorem dX2_put_15 : decode cX2_put 15 = .ok (.if_icmp .ge 35, 3) := by decide +kernel
theorem dX2_put_18 : decode cX2_put 18 = .ok (.aload_n 0, 1) := by decide +kernel
theorem dX2_put_19 : decode cX2_put 19 = .ok (.getfield 9, 3) := by decide +kernel
theorem dX2_put_22 : decode cX2_put 22 = .ok (.iload_n 1, 1) := by decide +kernel
theorem dX2_put_23 : decode cX2_put 23 = .ok (.aload_n 0, 1) := by decide +kernel
theorem dX2_put_24 : decode cX2_put 24 = .ok (.getfield 15, 3) := by decide +kernel
theorem dX2_put_27 : decode cX2_put 27 = .ok (.ifCond .ne 8, 3) := by decide +kernel
theorem dX2_put_30 : decode cX2_put 30 = .ok (.iload_n 2, 1) := by decide +kernel
theorem dX2_put_31 : decode cX2_put 31 = .ok (.i2b, 1) := by decide +kernel
theorem dX2_put_32 : decode cX2_put 32 = .ok (.goto 17, 3) := by decide +kernel
theorem dX2_put_35 : decode cX2_put 35 = .ok (.aload_n 0, 1) := by decide +kernel
theorem dX2_put_36 : decode cX2_put 36 = .ok (.getfield 15, 3) := by decide +kernel
theorem dX2_put_39 : decode cX2_put 39 = .ok (.iconst 1, 1) := by decide +kernel
theorem dX2_put_40 : decode cX2_put 40 = .ok (.if_icmp .ne 8, 3) := by decide +kernel
theorem dX2_put_43 : decode cX2_put 43 = .ok (.iload_n 2, 1) := by decide +kernel
theorem dX2_put_44 : decode cX2_put 44 = .ok (.i2s, 1) := by decide +kernel
theorem dX2_put_45 : decode cX2_put 45 = .ok (.goto 4, 3) := by decide +kernel
theorem dX2_put_48 : decode cX2_put 48 = .ok (.iload_n 2, 1) := by decide +kernel
theorem dX2_put_49 : decode cX2_put 49 = .ok (.iastore, 1) := by decide +kernel
theorem dX2_put_50 : decode cX2_put 50 = .ok (.return_, 1) := by decide +kernel
theorem dX3_init_0 : decode cX3_init 0 = .ok (.aload_n 0, 1) := by decide +kernel
theorem dX3_init_1 : decode cX3_init 1 = .ok (.invokespecial 1, 3) := by decide +kernel
theorem dX3_init_4 : decode cX3_init 4 = .ok (.aload_n 0, 1) := by decide +kernel
theorem dX3_init_5 : decode cX3_init 5 = .ok (.aload_n 1, 1) := by decide +kernel
theorem dX3_init_6 : decode cX3_init 6 = .ok (.putfield 7, 3) := by decide +kernel
theorem dX3_init_9 : decode cX3_init 9 = .ok (.aload_n 0, 1) := by decide +kernel
theorem dX3_init_10 : decode cX3_init 10 = .ok (.aload_n 2, 1) := by decide +kernel
theorem dX3_init_11 : decode cX3_init 11 = .ok (.putfield 13, 3) := by decide +kernel
theorem dX3_init_14 : decode cX3_init 14 = .ok (.return_, 1) := by decide +kernel
theorem dX3_codeAt_0 : decode cX3_codeAt 0 = .ok (.iload_n 1, 1) := by decide +kernel
theorem dX3_codeAt_1 : decode cX3_codeAt 1 = .ok (.ifCond .lt 21, 3) := by decide +kernel
theorem dX3_codeAt_4 : decode cX3_codeAt 4 = .ok (.iload_n 1, 1) := by decide +kernel
theorem dX3_codeAt_5 : decode cX3_codeAt 5 = .ok (.aload_n 0, 1) := by decide +kernel
theorem dX3_codeAt_6 : decode cX3_codeAt 6 = .ok (.getfield 7, 3) := by decide +kernel
theorem dX3_codeAt_9 : decode cX3_codeAt 9 = .ok (.arraylength, 1) := by decide +kernel
theorem dX3_codeAt_10 : decode cX3_codeAt 10 = .ok (.if_icmp .ge 12, 3) := by decide +kernel
theorem dX3_codeAt_13 : decode cX3_codeAt 13 = .ok (.aload_n 0, 1) := by decide +kernel
theorem dX3_codeAt_14 : decode cX3_codeAt 14 = .ok (.getfield 7, 3) := by decide +kernel
theorem dX3_codeAt_17 : decode cX3_codeAt 17 = .ok (.iload_n 1, 1) := by decide +kernel
theorem dX3_codeAt_18 : decode cX3_codeAt 18 = .ok (.iaload, 1) := by decide +kernel
theorem dX3_codeAt_19 : decode cX3_codeAt 19 = .ok (.goto 4, 3) := by decide +kernel
theorem dX3_codeAt_22 : decode cX3_codeAt 22 = .ok (.iconst 0, 1) := by decide +kernel
theorem dX3_codeAt_23 : decode cX3_codeAt 23 = .ok (.ireturn, 1) := by decide +kernel
theorem dX3_endOf_0 : decode cX3_endOf 0 = .ok (.iload_n 1, 1) := by decide +kernel
theorem dX3_endOf_1 : decode cX3_endOf 1 = .ok (.ifCond .lt 21, 3) := by decide +kernel
theorem dX3_endOf_4 : decode cX3_endOf 4 = .ok (.iload_n 1, 1) := by decide +kernel
theorem dX3_endOf_5 : decode cX3_endOf 5 = .ok (.aload_n 0, 1) := by decide +kernel
theorem dX3_endOf_6 : decode cX3_endOf 6 = .ok (.getfield 13, 3) := by decide +kernel
theorem dX3_endOf_9 : decode cX3_endOf 9 = .ok (.arraylength, 1) := by decide +kernel
theorem dX3_endOf_10 : decode cX3_endOf 10 = .ok (.if_icmp .ge 12, 3) := by decide +kernel
theorem dX3_endOf_13 : decode cX3_endOf 13 = .ok (.aload_n 0, 1) := by decide +kernel
theorem dX3_endOf_14 : decode cX3_endOf 14 = .ok (.getfield 13, 3) := by decide +kernel
theorem dX3_endOf_17 : decode cX3_endOf 17 = .ok (.iload_n 1, 1) := by decide +kernel
theorem dX3_endOf_18 : decode cX3_endOf 18 = .ok (.iaload, 1) := by decide +kernel
theorem dX3_endOf_19 : decode cX3_endOf 19 = .ok (.goto 4, 3) := by decide +kernel
theorem dX3_endOf_22 : decode cX3_endOf 22 = .ok (.iconst 0, 1) := by decide +kernel
theorem dX3_endOf_23 : decode cX3_endOf 23 = .ok (.ireturn, 1) := by decide +kernel
theorem dX4_init_0 : decode cX4_init 0 = .ok (.aload_n 0, 1) := by decide +kernel
theorem dX4_init_1 : decode cX4_init 1 = .ok (.invokespecial 3, 3) := by decide +kernel
theorem dX4_init_4 : decode cX4_init 4 = .ok (.aload_n 0, 1) := by decide +kernel
theorem dX4_init_5 : decode cX4_init 5 = .ok (.bipush 6, 2) := by decide +kernel
theorem dX4_init_7 : decode cX4_init 7 = .ok (.anewarray 9, 3) := by decide +kernel
theorem dX4_init_10 : decode cX4_init 10 = .ok (.putfield 11, 3) := by decide +kernel
theorem dX4_init_13 : decode cX4_init 13 = .ok (.aload_n 0, 1) := by decide +kernel
theorem dX4_init_14 : decode cX4_init 14 = .ok (.bipush 6, 2) := by decide +kernel
theorem dX4_init_16 : decode cX4_init 16 = .ok (.newarray .int, 2) := by decide +kernel
theorem dX4_init_18 : decode cX4_init 18 = .ok (.putfield 17, 3) := by decide +kernel
theorem dX4_init_21 : decode cX4_init 21 = .ok (.aload_n 0, 1) := by decide +kernel
theorem dX4_init_22 : decode cX4_init 22 = .ok (.bipush 64, 2) := by decide +kernel
theorem dX4_init_24 : decode cX4_init 24 = .ok (.newarray .int, 2) := by decide +kernel
theorem dX4_init_26 : decode cX4_init 26 = .ok (.putfield 21, 3) := by decide +kernel
theorem dX4_init_29 : decode cX4_init 29 = .ok (.aload_n 0, 1) := by decide +kernel
theorem dX4_init_30 : decode cX4_init 30 = .ok (.iconst 0, 1) := by decide +kernel
theorem dX4_init_31 : decode cX4_init 31 = .ok (.putfield 24, 3) := by decide +kernel
theorem dX4_init_34 : decode cX4_init 34 = .ok (.return_, 1) := by decide +kernel
theorem dX4_add_0 : decode cX4_add 0 = .ok (.aload_n 1, 1) := by decide +kernel
theorem dX4_add_1 : decode cX4_add 1 = .ok (.ifnull 19, 3) := by decide +kernel
theorem dX4_add_4 : decode cX4_add 4 = .ok (.aload_n 0, 1) := by decide +kernel
theorem dX4_add_5 : decode cX4_add 5 = .ok (.getfield 24, 3) := by decide +kernel
theorem dX4_add_8 : decode cX4_add 8 = .ok (.ifCond .lt 12, 3) := by decide +kernel
theorem dX4_add_11 : decode cX4_add 11 = .ok (.aload_n 0, 1) := by decide +kernel
theorem dX4_add_12 : decode cX4_add 12 = .ok (.getfield 24, 3) := by decide +kernel
theorem dX4_add_15 : decode cX4_add 15 = .ok (.bipush 6, 2) := by decide +kernel
theorem dX4_add_17 : decode cX4_add 17 = .ok (.if_icmp .lt 5, 3) := by decide +kernel
theorem dX4_add_20 : decode cX4_add 20 = .ok (.iconst (-1), 1) := by decide +kernel
theorem dX4_add_21 : decode cX4_add 21 = .ok (.ireturn, 1) := by decide +kernel
theorem dX4_add_22 : decode cX4_add 22 = .ok (.aload_n 0, 1) := by decide +kernel
theorem dX4_add_23 : decode cX4_add 23 = .ok (.getfield 11, 3) := by decide +kernel
theorem dX4_add_26 : decode cX4_add 26 = .ok (.aload_n 0, 1) := by decide +kernel
theorem dX4_add_27 : decode cX4_add 27 = .ok (.getfield 24, 3) := by decide +kernel
theorem dX4_add_30 : decode cX4_add 30 = .ok (.aload_n 1, 1) := by decide +kernel
theorem dX4_add_31 : decode cX4_add 31 = .ok (.aastore, 1) := by decide +kernel
theorem dX4_add_32 : decode cX4_add 32 = .ok (.aload_n 0, 1) := by decide +kernel
theorem dX4_add_33 : decode cX4_add 33 = .ok (.dup, 1) := by decide +kernel
theorem dX4_add_34 : decode cX4_add 34 = .ok (.getfield 24, 3) := by decide +kernel
theorem dX4_add_37 : decode cX4_add 37 = .ok (.iconst 1, 1) := by decide +kernel
theorem dX4_add_38 : decode cX4_add 38 = .ok (.iadd, 1) := by decide +kernel
theorem dX4_add_39 : decode cX4_add 39 = .ok (.putfield 24, 3) := by decide +kernel
theorem dX4_add_42 : decode cX4_add 42 = .ok (.aload_n 0, 1) := by decide +kernel
theorem dX4_add_43 : decode cX4_add 43 = .ok (.getfield 24, 3) := by decide +kernel
theorem dX4_add_46 : decode cX4_add 46 = .ok (.iconst 1, 1) := by decide +kernel
theorem dX4_add_47 : decode cX4_add 47 = .ok (.isub, 1) := by decide +kernel
theorem dX4_add_48 : decode cX4_add 48 = .ok (.ireturn, 1) := by decide +kernel
theorem dX4_valueOf_0 : decode cX4_valueOf 0 = .ok (.iload_n 1, 1) := by decide +kernel
theorem dX4_valueOf_1 : decode cX4_valueOf 1 = .ok (.ifCond .lt 18, 3) := by decide +kernel
theorem dX4_valueOf_4 : decode cX4_valueOf 4 = .ok (.iload_n 1, 1) := by decide +kernel
theorem dX4_valueOf_5 : decode cX4_valueOf 5 = .ok (.bipush 6, 2) := by decide +kernel
theorem dX4_valueOf_7 : decode cX4_valueOf 7 = .ok (.if_icmp .ge 12, 3) := by decide +kernel
theorem dX4_valueOf_10 : decode cX4_valueOf 10 = .ok (.aload_n 0, 1) := by decide +kernel
theorem dX4_valueOf_11 : decode cX4_valueOf 11 = .ok (.getfield 11, 3) := by decide +kernel
theorem dX4_valueOf_14 : decode cX4_valueOf 14 = .ok (.iload_n 1, 1) := by decide +kernel
theorem dX4_valueOf_15 : decode cX4_valueOf 15 = .ok (.aaload, 1) := by decide +kernel
theorem dX4_valueOf_16 : decode cX4_valueOf 16 = .ok (.goto 4, 3) := by decide +kernel
theorem dX4_valueOf_19 : decode cX4_valueOf 19 = .ok (.aconst_null, 1) := by decide +kernel
theorem dX4_valueOf_20 : decode cX4_valueOf 20 = .ok (.astore_n 3, 1) := by decide +kernel
theorem dX4_valueOf_21 : decode cX4_valueOf 21 = .ok (.aload_n 3, 1) := by decide +kernel
theorem dX4_valueOf_22 : decode cX4_valueOf 22 = .ok (.ifnonnull 5, 3) := by decide +kernel
theorem dX4_valueOf_25 : decode cX4_valueOf 25 = .ok (.iconst 0, 1) := by decide +kernel
theorem dX4_valueOf_26 : decode cX4_valueOf 26 = .ok (.ireturn, 1) := by decide +kernel
theorem dX4_valueOf_27 : decode cX4_valueOf 27 = .ok (.aload_n 3, 1) := by decide +kernel
theorem dX4_valueOf_28 : decode cX4_valueOf 28 = .ok (.iload_n 2, 1) := by decide +kernel
theorem dX4_valueOf_29 : decode cX4_valueOf 29 = .ok (.invokevirtual 28, 3) := by decide +kernel
theorem dX4_valueOf_32 : decode cX4_valueOf 32 = .ok (.istore 4, 2) := by decide +kernel
theorem dX4_valueOf_34 : decode cX4_valueOf 34 = .ok (.iconst 0, 1) := by decide +kernel
theorem dX4_valueOf_35 : decode cX4_valueOf 35 = .ok (.istore 5, 2) := by decide +kernel
theorem dX4_valueOf_37 : decode cX4_valueOf 37 = .ok (.aload_n 3, 1) := by decide +kernel
theorem dX4_valueOf_38 : decode cX4_valueOf 38 = .ok (.iload_n 2, 1) := by decide +kernel
theorem dX4_valueOf_39 : decode cX4_valueOf 39 = .ok (.iconst 1, 1) := by decide +kernel
theorem dX4_valueOf_40 : decode cX4_valueOf 40 = .ok (.isub, 1) := by decide +kernel
theorem dX4_valueOf_41 : decode cX4_valueOf 41 = .ok (.invokevirtual 28, 3) := by decide +kernel
theorem dX4_valueOf_44 : decode cX4_valueOf 44 = .ok (.istore 6, 2) := by decide +kernel
theorem dX4_valueOf_46 : decode cX4_valueOf 46 = .ok (.iload 6, 2) := by decide +kernel
theorem dX4_valueOf_48 : decode cX4_valueOf 48 = .ok (.iload 4, 2) := by decide +kernel
theorem dX4_valueOf_50 : decode cX4_valueOf 50 = .ok (.if_icmp .ge 177, 3) := by decide +kernel
theorem dX4_valueOf_53 : decode cX4_valueOf 53 = .ok (.aload_n 3, 1) := by decide +kernel
theorem dX4_valueOf_54 : decode cX4_valueOf 54 = .ok (.iload 6, 2) := by decide +kernel
theorem dX4_valueOf_56 : decode cX4_valueOf 56 = .ok (.invokevirtual 32, 3) := by decide +kernel
theorem dX4_valueOf_59 : decode cX4_valueOf 59 = .ok (.istore 7, 2) := by decide +kernel
theorem dX4_valueOf_61 : decode cX4_valueOf 61 = .ok (.iload 7, 2) := by decide +kernel
theorem dX4_valueOf_63 : decode cX4_valueOf 63 = .ok (.bipush (-6), 2) := by decide +kernel
theorem dX4_valueOf_65 : decode cX4_valueOf 65 = .ok (.if_icmp .lt 42, 3) := by decide +kernel
theorem dX4_valueOf_68 : decode cX4_valueOf 68 = .ok (.iload 5, 2) := by decide +kernel
theorem dX4_valueOf_70 : decode cX4_valueOf 70 = .ok (.bipush 64, 2) := by decide +kernel
theorem dX4_valueOf_72 : decode cX4_valueOf 72 = .ok (.if_icmp .ge 35, 3) := by decide +kernel
theorem dX4_valueOf_75 : decode cX4_valueOf 75 = .ok (.aload_n 0, 1) := by decide +kernel
theorem dX4_valueOf_76 : decode cX4_valueOf 76 = .ok (.getfield 21, 3) := by decide +kernel
theorem dX4_valueOf_79 : decode cX4_valueOf 79 = .ok (.iload 5, 2) := by decide +kernel
theorem dX4_valueOf_81 : decode cX4_valueOf 81 = .ok (.iload 7, 2) := by decide +kernel
theorem dX4_valueOf_83 : decode cX4_valueOf 83 = .ok (.ifCond .lt 8, 3) := by decide +kernel
theorem dX4_valueOf_86 : decode cX4_valueOf 86 = .ok (.iload 7, 2) := by decide +kernel
theorem dX4_valueOf_88 : decode cX4_valueOf 88 = .ok (.goto 12, 3) := by decide +kernel
theorem dX4_valueOf_91 : decode cX4_valueOf 91 = .ok (.aload_n 0, 1) := by decide +kernel
theorem dX4_valueOf_92 : decode cX4_valueOf 92 = .ok (.getfield 17, 3) := by decide +kernel
theorem dX4_valueOf_95 : decode cX4_valueOf 95 = .ok (.iconst (-1), 1) := by decide +kernel
theorem dX4_valueOf_96 : decode cX4_valueOf 96 = .ok (.iload 7, 2) := by decide +kernel
theorem dX4_valueOf_98 : decode cX4_valueOf 98 = .ok (.isub, 1) := by decide +kernel
theorem dX4_valueOf_99 : decode cX4_valueOf 99 = .ok (.iaload, 1) := by decide +kernel
theorem dX4_valueOf_100 : decode cX4_valueOf 100 = .ok (.iastore, 1) := by decide +kernel
theorem dX4_valueOf_101 : decode cX4_valueOf 101 = .ok (.iinc 5 1, 3) := by decide +kernel
theorem dX4_valueOf_104 : decode cX4_valueOf 104 = .ok (.goto 117, 3) := by decide +kernel
theorem dX4_valueOf_107 : decode cX4_valueOf 107 = .ok (.iload 7, 2) := by decide +kernel
theorem dX4_valueOf_109 : decode cX4_valueOf 109 = .ok (.bipush (-14), 2) := by decide +kernel
theorem dX4_valueOf_111 : decode cX4_valueOf 111 = .ok (.if_icmp .ne 30, 3) := by decide +kernel
theorem dX4_valueOf_114 : decode cX4_valueOf 114 = .ok (.iload 5, 2) := by decide +kernel
theorem dX4_valueOf_116 : decode cX4_valueOf 116 = .ok (.ifCond .le 25, 3) := by decide +kernel
theorem dX4_valueOf_119 : decode cX4_valueOf 119 = .ok (.aload_n 0, 1) := by decide +kernel
theorem dX4_valueOf_120 : decode cX4_valueOf 120 = .ok (.getfield 21, 3) := by decide +kernel
theorem dX4_valueOf_123 : decode cX4_valueOf 123 = .ok (.iload 5, 2) := by decide +kernel
theorem dX4_valueOf_125 : decode cX4_valueOf 125 = .ok (.iconst 1, 1) := by decide +kernel
theorem dX4_valueOf_126 : decode cX4_valueOf 126 = .ok (.isub, 1) := by decide +kernel
theorem dX4_valueOf_127 : decode cX4_valueOf 127 = .ok (.aload_n 0, 1) := by decide +kernel
theorem dX4_valueOf_128 : decode cX4_valueOf 128 = .ok (.getfield 21, 3) := by decide +kernel
theorem dX4_valueOf_131 : decode cX4_valueOf 131 = .ok (.iload 5, 2) := by decide +kernel
theorem dX4_valueOf_133 : decode cX4_valueOf 133 = .ok (.iconst 1, 1) := by decide +kernel
theorem dX4_valueOf_134 : decode cX4_valueOf 134 = .ok (.isub, 1) := by decide +kernel
theorem dX4_valueOf_135 : decode cX4_valueOf 135 = .ok (.iaload, 1) := by decide +kernel
theorem dX4_valueOf_136 : decode cX4_valueOf 136 = .ok (.ineg, 1) := by decide +kernel
theorem dX4_valueOf_137 : decode cX4_valueOf 137 = .ok (.iastore, 1) := by decide +kernel
theorem dX4_valueOf_138 : decode cX4_valueOf 138 = .ok (.goto 83, 3) := by decide +kernel
theorem dX4_valueOf_141 : decode cX4_valueOf 141 = .ok (.iload 7, 2) := by decide +kernel
theorem dX4_valueOf_143 : decode cX4_valueOf 143 = .ok (.bipush (-19), 2) := by decide +kernel
theorem dX4_valueOf_145 : decode cX4_valueOf 145 = .ok (.if_icmp .ne 37, 3) := by decide +kernel
theorem dX4_valueOf_148 : decode cX4_valueOf 148 = .ok (.iload 5, 2) := by decide +kernel
theorem dX4_valueOf_150 : decode cX4_valueOf 150 = .ok (.ifCond .le 32, 3) := by decide +kernel
theorem dX4_valueOf_153 : decode cX4_valueOf 153 = .ok (.aload_n 0, 1) := by decide +kernel
theorem dX4_valueOf_154 : decode cX4_valueOf 154 = .ok (.getfield 21, 3) := by decide +kernel
theorem dX4_valueOf_157 : decode cX4_valueOf 157 = .ok (.iload 5, 2) := by decide +kernel
theorem dX4_valueOf_159 : decode cX4_valueOf 159 = .ok (.iconst 1, 1) := by decide +kernel
theorem dX4_valueOf_160 : decode cX4_valueOf 160 = .ok (.isub, 1) := by decide +kernel
theorem dX4_valueOf_161 : decode cX4_valueOf 161 = .ok (.aload_n 0, 1) := by decide +kernel
theorem dX4_valueOf_162 : decode cX4_valueOf 162 = .ok (.getfield 21, 3) := by decide +kernel
theorem dX4_valueOf_165 : decode cX4_valueOf 165 = .ok (.iload 5, 2) := by decide +kernel
theorem dX4_valueOf_167 : decode cX4_valueOf 167 = .ok (.iconst 1, 1) := by decide +kernel
theorem dX4_valueOf_168 : decode cX4_valueOf 168 = .ok (.isub, 1) := by decide +kernel
theorem dX4_valueOf_169 : decode cX4_valueOf 169 = .ok (.iaload, 1) := by decide +kernel
theorem dX4_valueOf_170 : decode cX4_valueOf 170 = .ok (.ifCond .ne 7, 3) := by decide +kernel
theorem dX4_valueOf_173 : decode cX4_valueOf 173 = .ok (.iconst 1, 1) := by decide +kernel
theorem dX4_valueOf_174 : decode cX4_valueOf 174 = .ok (.goto 4, 3) := by decide +kernel
theorem dX4_valueOf_177 : decode cX4_valueOf 177 = .ok (.iconst 0, 1) := by decide +kernel
theorem dX4_valueOf_178 : decode cX4_valueOf 178 = .ok (.iastore, 1) := by decide +kernel
theorem dX4_valueOf_179 : decode cX4_valueOf 179 = .ok (.goto 42, 3) := by decide +kernel
theorem dX4_valueOf_182 : decode cX4_valueOf 182 = .ok (.iload 5, 2) := by decide +kernel
theorem dX4_valueOf_184 : decode cX4_valueOf 184 = .ok (.iconst 1, 1) := by decide +kernel
theorem dX4_valueOf_185 : decode cX4_valueOf 185 = .ok (.if_icmp .le 36, 3) := by decide +kernel
theorem dX4_valueOf_188 : decode cX4_valueOf 188 = .ok (.iinc 5 (-1), 3) := by decide +kernel
theorem dX4_valueOf_191 : decode cX4_valueOf 191 = .ok (.aload_n 0, 1) := by decide +kernel
theorem dX4_valueOf_192 : decode cX4_valueOf 192 = .ok (.getfield 21, 3) := by decide +kernel
theorem dX4_valueOf_195 : decode cX4_valueOf 195 = .ok (.iload 5, 2) := by decide +kernel
theorem dX4_valueOf_197 : decode cX4_valueOf 197 = .ok (.iconst 1, 1) := by decide +kernel
theorem dX4_valueOf_198 : decode cX4_valueOf 198 = .ok (.isub, 1) := by decide +kernel
theorem dX4_valueOf_199 : decode cX4_valueOf 199 = .ok (.iload 7, 2) := by decide +kernel
theorem dX4_valueOf_201 : decode cX4_valueOf 201 = .ok (.aload_n 0, 1) := by decide +kernel
theorem dX4_valueOf_202 : decode cX4_valueOf 202 = .ok (.getfield 21, 3) := by decide +kernel
theorem dX4_valueOf_205 : decode cX4_valueOf 205 = .ok (.iload 5, 2) := by decide +kernel
theorem dX4_valueOf_207 : decode cX4_valueOf 207 = .ok (.iconst 1, 1) := by decide +kernel
theorem dX4_valueOf_208 : decode cX4_valueOf 208 = .ok (.isub, 1) := by decide +kernel
theorem dX4_valueOf_209 : decode cX4_valueOf 209 = .ok (.iaload, 1) := by decide +kernel
theorem dX4_valueOf_210 : decode cX4_valueOf 210 = .ok (.aload_n 0, 1) := by decide +kernel
theorem dX4_valueOf_211 : decode cX4_valueOf 211 = .ok (.getfield 21, 3) := by decide +kernel
theorem dX4_valueOf_214 : decode cX4_valueOf 214 = .ok (.iload 5, 2) := by decide +kernel
theorem dX4_valueOf_216 : decode cX4_valueOf 216 = .ok (.iaload, 1) := by decide +kernel
theorem dX4_valueOf_217 : decode cX4_valueOf 217 = .ok (.invokestatic 35, 3) := by decide +kernel
theorem dX4_valueOf_220 : decode cX4_valueOf 220 = .ok (.iastore, 1) := by decide +kernel
theorem dX4_valueOf_221 : decode cX4_valueOf 221 = .ok (.iinc 6 1, 3) := by decide +kernel
theorem dX4_valueOf_224 : decode cX4_valueOf 224 = .ok (.goto (-178), 3) := by decide +kernel
theorem dX4_valueOf_227 : decode cX4_valueOf 227 = .ok (.iload 5, 2) := by decide +kernel
theorem dX4_valueOf_229 : decode cX4_valueOf 229 = .ok (.ifCond .le 12, 3) := by decide +kernel
theorem dX4_valueOf_232 : decode cX4_valueOf 232 = .ok (.aload_n 0, 1) := by decide +kernel
theorem dX4_valueOf_233 : decode cX4_valueOf 233 = .ok (.getfield 21, 3) := by decide +kernel
theorem dX4_valueOf_236 : decode cX4_valueOf 236 = .ok (.iconst 0, 1) := by decide +kernel
theorem dX4_valueOf_237 : decode cX4_valueOf 237 = .ok (.iaload, 1) := by decide +kernel
theorem dX4_valueOf_238 : decode cX4_valueOf 238 = .ok (.goto 4, 3) := by decide +kernel
theorem dX4_valueOf_241 : decode cX4_valueOf 241 = .ok (.iconst 0, 1) := by decide +kernel
theorem dX4_valueOf_242 : decode cX4_valueOf 242 = .ok (.ireturn, 1) := by decide +kernel
theorem dX4_joined_0 : decode cX4_joined 0 = .ok (.iload_n 0, 1) := by decide +kernel
theorem dX4_joined_1 : decode cX4_joined 1 = .ok (.tableswitch 109 (-18) (-11) #[95, 81, 70, 59, 109, 55, 51, 47], 47) := by decide +kernel
theorem dX4_joined_48 : decode cX4_joined 48 = .ok (.iload_n 1, 1) := by decide +kernel
theorem dX4_joined_49 : decode cX4_joined 49 = .ok (.iload_n 2, 1) := by decide +kernel
theorem dX4_joined_50 : decode cX4_joined 50 = .ok (.iadd, 1) := by decide +kernel
theorem dX4_joined_51 : decode cX4_joined 51 = .ok (.ireturn, 1) := by decide +kernel
theorem dX4_joined_52 : decode cX4_joined 52 = .ok (.iload_n 1, 1) := by decide +kernel
theorem dX4_joined_53 : decode cX4_joined 53 = .ok (.iload_n 2, 1) := by decide +kernel
theorem dX4_joined_54 : decode cX4_joined 54 = .ok (.isub, 1) := by decide +kernel
theorem dX4_joined_55 : decode cX4_joined 55 = .ok (.ireturn, 1) := by decide +kernel
theorem dX4_joined_56 : decode cX4_joined 56 = .ok (.iload_n 1, 1) := by decide +kernel
theorem dX4_joined_57 : decode cX4_joined 57 = .ok (.iload_n 2, 1) := by decide +kernel
theorem dX4_joined_58 : decode cX4_joined 58 = .ok (.imul, 1) := by decide +kernel
theorem dX4_joined_59 : decode cX4_joined 59 = .ok (.ireturn, 1) := by decide +kernel
theorem dX4_joined_60 : decode cX4_joined 60 = .ok (.iload_n 1, 1) := by decide +kernel
theorem dX4_joined_61 : decode cX4_joined 61 = .ok (.iload_n 2, 1) := by decide +kernel
theorem dX4_joined_62 : decode cX4_joined 62 = .ok (.if_icmp .ge 7, 3) := by decide +kernel
theorem dX4_joined_65 : decode cX4_joined 65 = .ok (.iconst 1, 1) := by decide +kernel
theorem dX4_joined_66 : decode cX4_joined 66 = .ok (.goto 4, 3) := by decide +kernel
theorem dX4_joined_69 : decode cX4_joined 69 = .ok (.iconst 0, 1) := by decide +kernel
theorem dX4_joined_70 : decode cX4_joined 70 = .ok (.ireturn, 1) := by decide +kernel
theorem dX4_joined_71 : decode cX4_joined 71 = .ok (.iload_n 1, 1) := by decide +kernel
theorem dX4_joined_72 : decode cX4_joined 72 = .ok (.iload_n 2, 1) := by decide +kernel
theorem dX4_joined_73 : decode cX4_joined 73 = .ok (.if_icmp .ne 7, 3) := by decide +kernel
theorem dX4_joined_76 : decode cX4_joined 76 = .ok (.iconst 1, 1) := by decide +kernel
theorem dX4_joined_77 : decode cX4_joined 77 = .ok (.goto 4, 3) := by decide +kernel
theorem dX4_joined_80 : decode cX4_joined 80 = .ok (.iconst 0, 1) := by decide +kernel
theorem dX4_joined_81 : decode cX4_joined 81 = .ok (.ireturn, 1) := by decide +kernel
theorem dX4_joined_82 : decode cX4_joined 82 = .ok (.iload_n 1, 1) := by decide +kernel
theorem dX4_joined_83 : decode cX4_joined 83 = .ok (.ifCond .eq 11, 3) := by decide +kernel
theorem dX4_joined_86 : decode cX4_joined 86 = .ok (.iload_n 2, 1) := by decide +kernel
theorem dX4_joined_87 : decode cX4_joined 87 = .ok (.ifCond .eq 7, 3) := by decide +kernel
theorem dX4_joined_90 : decode cX4_joined 90 = .ok (.iconst 1, 1) := by decide +kernel
theorem dX4_joined_91 : decode cX4_joined 91 = .ok (.goto 4, 3) := by decide +kernel
theorem dX4_joined_94 : decode cX4_joined 94 = .ok (.iconst 0, 1) := by decide +kernel
theorem dX4_joined_95 : decode cX4_joined 95 = .ok (.ireturn, 1) := by decide +kernel
theorem dX4_joined_96 : decode cX4_joined 96 = .ok (.iload_n 1, 1) := by decide +kernel
theorem dX4_joined_97 : decode cX4_joined 97 = .ok (.ifCond .ne 7, 3) := by decide +kernel
theorem dX4_joined_100 : decode cX4_joined 100 = .ok (.iload_n 2, 1) := by decide +kernel
theorem dX4_joined_101 : decode cX4_joined 101 = .ok (.ifCond .eq 7, 3) := by decide +kernel
theorem dX4_joined_104 : decode cX4_joined 104 = .ok (.iconst 1, 1) := by decide +kernel
theorem dX4_joined_105 : decode cX4_joined 105 = .ok (.goto 4, 3) := by decide +kernel
theorem dX4_joined_108 : decode cX4_joined 108 = .ok (.iconst 0, 1) := by decide +kernel
theorem dX4_joined_109 : decode cX4_joined 109 = .ok (.ireturn, 1) := by decide +kernel
theorem dX4_joined_110 : decode cX4_joined 110 = .ok (.iconst 0, 1) := by decide +kernel
theorem dX4_joined_111 : decode cX4_joined 111 = .ok (.ireturn, 1) := by decide +kernel
theorem dX5_init_0 : decode cX5_init 0 = .ok (.aload_n 0, 1) := by decide +kernel
theorem dX5_init_1 : decode cX5_init 1 = .ok (.invokespecial 1, 3) := by decide +kernel
theorem dX5_init_4 : decode cX5_init 4 = .ok (.aload_n 0, 1) := by decide +kernel
theorem dX5_init_5 : decode cX5_init 5 = .ok (.new 7, 3) := by decide +kernel
theorem dX5_init_8 : decode cX5_init 8 = .ok (.dup, 1) := by decide +kernel
theorem dX5_init_9 : decode cX5_init 9 = .ok (.invokespecial 9, 3) := by decide +kernel
theorem dX5_init_12 : decode cX5_init 12 = .ok (.putfield 10, 3) := by decide +kernel
theorem dX5_init_15 : decode cX5_init 15 = .ok (.aload_n 0, 1) := by decide +kernel
theorem dX5_init_16 : decode cX5_init 16 = .ok (.new 16, 3) := by decide +kernel
theorem dX5_init_19 : decode cX5_init 19 = .ok (.dup, 1) := by decide +kernel
theorem dX5_init_20 : decode cX5_init 20 = .ok (.invokespecial 18, 3) := by decide +kernel
theorem dX5_init_23 : decode cX5_init 23 = .ok (.putfield 19, 3) := by decide +kernel
theorem dX5_init_26 : decode cX5_init 26 = .ok (.aload_n 0, 1) := by decide +kernel
theorem dX5_init_27 : decode cX5_init 27 = .ok (.getfield 19, 3) := by decide +kernel
theorem dX5_init_30 : decode cX5_init 30 = .ok (.ldc 23, 2) := by decide +kernel
theorem dX5_init_32 : decode cX5_init 32 = .ok (.invokevirtual 25, 3) := by decide +kernel
theorem dX5_init_35 : decode cX5_init 35 = .ok (.aload_n 0, 1) := by decide +kernel
theorem dX5_init_36 : decode cX5_init 36 = .ok (.getfield 10, 3) := by decide +kernel
theorem dX5_init_39 : decode cX5_init 39 = .ok (.aload_n 0, 1) := by decide +kernel
theorem dX5_init_40 : decode cX5_init 40 = .ok (.getfield 19, 3) := by decide +kernel
theorem dX5_init_43 : decode cX5_init 43 = .ok (.invokevirtual 29, 3) := by decide +kernel
theorem dX5_init_46 : decode cX5_init 46 = .ok (.invokevirtual 33, 3) := by decide +kernel
theorem dX5_init_49 : decode cX5_init 49 = .ok (.pop, 1) := by decide +kernel
theorem dX5_init_50 : decode cX5_init 50 = .ok (.aload_n 0, 1) := by decide +kernel
theorem dX5_init_51 : decode cX5_init 51 = .ok (.new 37, 3) := by decide +kernel
theorem dX5_init_54 : decode cX5_init 54 = .ok (.dup, 1) := by decide +kernel
theorem dX5_init_55 : decode cX5_init 55 = .ok (.aload_n 0, 1) := by decide +kernel
theorem dX5_init_56 : decode cX5_init 56 = .ok (.getfield 10, 3) := by decide +kernel
theorem dX5_init_59 : decode cX5_init 59 = .ok (.invokespecial 39, 3) := by decide +kernel
theorem dX5_init_62 : decode cX5_init 62 = .ok (.putfield 42, 3) := by decide +kernel
theorem dX5_init_65 : decode cX5_init 65 = .ok (.aload_n 0, 1) := by decide +kernel
theorem dX5_init_66 : decode cX5_init 66 = .ok (.new 37, 3) := by decide +kernel
theorem dX5_init_69 : decode cX5_init 69 = .ok (.dup, 1) := by decide +kernel
theorem dX5_init_70 : decode cX5_init 70 = .ok (.aload_n 0, 1) := by decide +kernel
theorem dX5_init_71 : decode cX5_init 71 = .ok (.getfield 10, 3) := by decide +kernel
theorem dX5_init_74 : decode cX5_init 74 = .ok (.invokespecial 39, 3) := by decide +kernel
theorem dX5_init_77 : decode cX5_init 77 = .ok (.putfield 46, 3) := by decide +kernel
theorem dX5_init_80 : decode cX5_init 80 = .ok (.aload_n 0, 1) := by decide +kernel
theorem dX5_init_81 : decode cX5_init 81 = .ok (.new 37, 3) := by decide +kernel
theorem dX5_init_84 : decode cX5_init 84 = .ok (.dup, 1) := by decide +kernel
theorem dX5_init_85 : decode cX5_init 85 = .ok (.aload_n 0, 1) := by decide +kernel
theorem dX5_init_86 : decode cX5_init 86 = .ok (.getfield 10, 3) := by decide +kernel
theorem dX5_init_89 : decode cX5_init 89 = .ok (.invokespecial 39, 3) := by decide +kernel
theorem dX5_init_92 : decode cX5_init 92 = .ok (.putfield 49, 3) := by decide +kernel
theorem dX5_init_95 : decode cX5_init 95 = .ok (.aload_n 0, 1) := by decide +kernel
theorem dX5_init_96 : decode cX5_init 96 = .ok (.iconst 5, 1) := by decide +kernel
theorem dX5_init_97 : decode cX5_init 97 = .ok (.anewarray 37, 3) := by decide +kernel
theorem dX5_init_100 : decode cX5_init 100 = .ok (.putfield 52, 3) := by decide +kernel
theorem dX5_init_103 : decode cX5_init 103 = .ok (.iconst 0, 1) := by decide +kernel
theorem dX5_init_104 : decode cX5_init 104 = .ok (.istore_n 1, 1) := by decide +kernel
theorem dX5_init_105 : decode cX5_init 105 = .ok (.iload_n 1, 1) := by decide +kernel
theorem dX5_init_106 : decode cX5_init 106 = .ok (.aload_n 0, 1) := by decide +kernel
theorem dX5_init_107 : decode cX5_init 107 = .ok (.getfield 52, 3) := by decide +kernel
theorem dX5_init_110 : decode cX5_init 110 = .ok (.arraylength, 1) := by decide +kernel
theorem dX5_init_111 : decode cX5_init 111 = .ok (.if_icmp .ge 26, 3) := by decide +kernel
theorem dX5_init_114 : decode cX5_init 114 = .ok (.aload_n 0, 1) := by decide +kernel
theorem dX5_init_115 : decode cX5_init 115 = .ok (.getfield 52, 3) := by decide +kernel
theorem dX5_init_118 : decode cX5_init 118 = .ok (.iload_n 1, 1) := by decide +kernel
theorem dX5_init_119 : decode cX5_init 119 = .ok (.new 37, 3) := by decide +kernel
theorem dX5_init_122 : decode cX5_init 122 = .ok (.dup, 1) := by decide +kernel
theorem dX5_init_123 : decode cX5_init 123 = .ok (.aload_n 0, 1) := by decide +kernel
theorem dX5_init_124 : decode cX5_init 124 = .ok (.getfield 10, 3) := by decide +kernel
theorem dX5_init_127 : decode cX5_init 127 = .ok (.invokespecial 39, 3) := by decide +kernel
theorem dX5_init_130 : decode cX5_init 130 = .ok (.aastore, 1) := by decide +kernel
theorem dX5_init_131 : decode cX5_init 131 = .ok (.iinc 1 1, 3) := by decide +kernel
theorem dX5_init_134 : decode cX5_init 134 = .ok (.goto (-29), 3) := by decide +kernel
theorem dX5_init_137 : decode cX5_init 137 = .ok (.aload_n 0, 1) := by decide +kernel
theorem dX5_init_138 : decode cX5_init 138 = .ok (.iconst 4, 1) := by decide +kernel
theorem dX5_init_139 : decode cX5_init 139 = .ok (.anewarray 56, 3) := by decide +kernel
theorem dX5_init_142 : decode cX5_init 142 = .ok (.putfield 58, 3) := by decide +kernel
theorem dX5_init_145 : decode cX5_init 145 = .ok (.iconst 0, 1) := by decide +kernel
theorem dX5_init_146 : decode cX5_init 146 = .ok (.istore_n 1, 1) := by decide +kernel
theorem dX5_init_147 : decode cX5_init 147 = .ok (.iload_n 1, 1) := by decide +kernel
theorem dX5_init_148 : decode cX5_init 148 = .ok (.aload_n 0, 1) := by decide +kernel
theorem dX5_init_149 : decode cX5_init 149 = .ok (.getfield 58, 3) := by decide +kernel
theorem dX5_init_152 : decode cX5_init 152 = .ok (.arraylength, 1) := by decide +kernel
theorem dX5_init_153 : decode cX5_init 153 = .ok (.if_icmp .ge 22, 3) := by decide +kernel
theorem dX5_init_156 : decode cX5_init 156 = .ok (.aload_n 0, 1) := by decide +kernel
theorem dX5_init_157 : decode cX5_init 157 = .ok (.getfield 58, 3) := by decide +kernel
theorem dX5_init_160 : decode cX5_init 160 = .ok (.iload_n 1, 1) := by decide +kernel
theorem dX5_init_161 : decode cX5_init 161 = .ok (.new 56, 3) := by decide +kernel
theorem dX5_init_164 : decode cX5_init 164 = .ok (.dup, 1) := by decide +kernel
theorem dX5_init_165 : decode cX5_init 165 = .ok (.invokespecial 62, 3) := by decide +kernel
theorem dX5_init_168 : decode cX5_init 168 = .ok (.aastore, 1) := by decide +kernel
theorem dX5_init_169 : decode cX5_init 169 = .ok (.iinc 1 1, 3) := by decide +kernel
theorem dX5_init_172 : decode cX5_init 172 = .ok (.goto (-25), 3) := by decide +kernel
theorem dX5_init_175 : decode cX5_init 175 = .ok (.return_, 1) := by decide +kernel
theorem dX5_set_0 : decode cX5_set 0 = .ok (.iload_n 1, 1) := by decide +kernel
theorem dX5_set_1 : decode cX5_set 1 = .ok (.tableswitch 76 0 3 #[31, 37, 44, 60], 31) := by decide +kernel
theorem dX5_set_32 : decode cX5_set 32 = .ok (.aload_n 0, 1) := by decide +kernel
theorem dX5_set_33 : decode cX5_set 33 = .ok (.iload_n 3, 1) := by decide +kernel
theorem dX5_set_34 : decode cX5_set 34 = .ok (.invokevirtual 63, 3) := by decide +kernel
theorem dX5_set_37 : decode cX5_set 37 = .ok (.ireturn, 1) := by decide +kernel
theorem dX5_set_38 : decode cX5_set 38 = .ok (.aload_n 0, 1) := by decide +kernel
theorem dX5_set_39 : decode cX5_set 39 = .ok (.iload_n 2, 1) := by decide +kernel
theorem dX5_set_40 : decode cX5_set 40 = .ok (.iload_n 3, 1) := by decide +kernel
theorem dX5_set_41 : decode cX5_set 41 = .ok (.invokevirtual 67, 3) := by decide +kernel
theorem dX5_set_44 : decode cX5_set 44 = .ok (.ireturn, 1) := by decide +kernel
theorem dX5_set_45 : decode cX5_set 45 = .ok (.aload_n 0, 1) := by decide +kernel
theorem dX5_set_46 : decode cX5_set 46 = .ok (.aload_n 0, 1) := by decide +kernel
theorem dX5_set_47 : decode cX5_set 47 = .ok (.getfield 42, 3) := by decide +kernel
theorem dX5_set_50 : decode cX5_set 50 = .ok (.getfield 71, 3) := by decide +kernel
theorem dX5_set_53 : decode cX5_set 53 = .ok (.iload_n 2, 1) := by decide +kernel
theorem dX5_set_54 : decode cX5_set 54 = .ok (.iload_n 3, 1) := by decide +kernel
theorem dX5_set_55 : decode cX5_set 55 = .ok (.bipush 9, 2) := by decide +kernel
theorem dX5_set_57 : decode cX5_set 57 = .ok (.invokevirtual 75, 3) := by decide +kernel
theorem dX5_set_60 : decode cX5_set 60 = .ok (.ireturn, 1) := by decide +kernel
theorem dX5_set_61 : decode cX5_set 61 = .ok (.aload_n 0, 1) := by decide +kernel
theorem dX5_set_62 : decode cX5_set 62 = .ok (.aload_n 0, 1) := by decide +kernel
theorem dX5_set_63 : decode cX5_set 63 = .ok (.getfield 42, 3) := by decide +kernel
theorem dX5_set_66 : decode cX5_set 66 = .ok (.getfield 79, 3) := by decide +kernel
theorem dX5_set_69 : decode cX5_set 69 = .ok (.iload_n 2, 1) := by decide +kernel
theorem dX5_set_70 : decode cX5_set 70 = .ok (.iload_n 3, 1) := by decide +kernel
theorem dX5_set_71 : decode cX5_set 71 = .ok (.bipush 99, 2) := by decide +kernel
theorem dX5_set_73 : decode cX5_set 73 = .ok (.invokevirtual 75, 3) := by decide +kernel
theorem dX5_set_76 : decode cX5_set 76 = .ok (.ireturn, 1) := by decide +kernel
theorem dX5_set_77 : decode cX5_set 77 = .ok (.sipush (-1000), 3) := by decide +kernel
theorem dX5_set_80 : decode cX5_set 80 = .ok (.ireturn, 1) := by decide +kernel
theorem dX5_setRound_0 : decode cX5_setRound 0 = .ok (.iload_n 1, 1) := by decide +kernel
theorem dX5_setRound_1 : decode cX5_setRound 1 = .ok (.iconst 0, 1) := by decide +kernel
theorem dX5_setRound_2 : decode cX5_setRound 2 = .ok (.sipush 999, 3) := by decide +kernel
theorem dX5_setRound_5 : decode cX5_setRound 5 = .ok (.invokestatic 82, 3) := by decide +kernel
theorem dX5_setRound_8 : decode cX5_setRound 8 = .ok (.ifCond .ne 7, 3) := by decide +kernel
theorem dX5_setRound_11 : decode cX5_setRound 11 = .ok (.sipush (-1000), 3) := by decide +kernel
theorem dX5_setRound_14 : decode cX5_setRound 14 = .ok (.ireturn, 1) := by decide +kernel
theorem dX5_setRound_15 : decode cX5_setRound 15 = .ok (.aload_n 0, 1) := by decide +kernel
theorem dX5_setRound_16 : decode cX5_setRound 16 = .ok (.getfield 42, 3) := by decide +kernel
theorem dX5_setRound_19 : decode cX5_setRound 19 = .ok (.getfield 86, 3) := by decide +kernel
theorem dX5_setRound_22 : decode cX5_setRound 22 = .ok (.istore_n 2, 1) := by decide +kernel
theorem dX5_setRound_23 : decode cX5_setRound 23 = .ok (.aload_n 0, 1) := by decide +kernel
theorem dX5_setRound_24 : decode cX5_setRound 24 = .ok (.getfield 42, 3) := by decide +kernel
theorem dX5_setRound_27 : decode cX5_setRound 27 = .ok (.iload_n 1, 1) := by decide +kernel
theorem dX5_setRound_28 : decode cX5_setRound 28 = .ok (.putfield 86, 3) := by decide +kernel
theorem dX5_setRound_31 : decode cX5_setRound 31 = .ok (.iload_n 2, 1) := by decide +kernel
theorem dX5_setRound_32 : decode cX5_setRound 32 = .ok (.ireturn, 1) := by decide +kernel
theorem dX5_setPlace_0 : decode cX5_setPlace 0 = .ok (.iload_n 1, 1) := by decide +kernel
theorem dX5_setPlace_1 : decode cX5_setPlace 1 = .ok (.iconst 0, 1) := by decide +kernel
theorem dX5_setPlace_2 : decode cX5_setPlace 2 = .ok (.bipush 7, 2) := by decide +kernel
theorem dX5_setPlace_4 : decode cX5_setPlace 4 = .ok (.invokestatic 82, 3) := by decide +kernel
theorem dX5_setPlace_7 : decode cX5_setPlace 7 = .ok (.ifCond .eq 19, 3) := by decide +kernel
theorem dX5_setPlace_10 : decode cX5_setPlace 10 = .ok (.iload_n 2, 1) := by decide +kernel
theorem dX5_setPlace_11 : decode cX5_setPlace 11 = .ok (.iconst (-1), 1) := by decide +kernel
theorem dX5_setPlace_12 : decode cX5_setPlace 12 = .ok (.if_icmp .eq 18, 3) := by decide +kernel
theorem dX5_setPlace_15 : decode cX5_setPlace 15 = .ok (.aload_n 0, 1) := by decide +kernel
theorem dX5_setPlace_16 : decode cX5_setPlace 16 = .ok (.getfield 42, 3) := by decide +kernel
theorem dX5_setPlace_19 : decode cX5_setPlace 19 = .ok (.iload_n 2, 1) := by decide +kernel
theorem dX5_setPlace_20 : decode cX5_setPlace 20 = .ok (.invokevirtual 90, 3) := by decide +kernel
theorem dX5_setPlace_23 : decode cX5_setPlace 23 = .ok (.ifCond .ne 7, 3) := by decide +kernel
theorem dX5_setPlace_26 : decode cX5_setPlace 26 = .ok (.sipush (-1000), 3) := by decide +kernel
theorem dX5_setPlace_29 : decode cX5_setPlace 29 = .ok (.ireturn, 1) := by decide +kernel
theorem dX5_setPlace_30 : decode cX5_setPlace 30 = .ok (.aload_n 0, 1) := by decide +kernel
theorem dX5_setPlace_31 : decode cX5_setPlace 31 = .ok (.getfield 42, 3) := by decide +kernel
theorem dX5_setPlace_34 : decode cX5_setPlace 34 = .ok (.iload_n 1, 1) := by decide +kernel
theorem dX5_setPlace_35 : decode cX5_setPlace 35 = .ok (.invokevirtual 94, 3) := by decide +kernel
theorem dX5_setPlace_38 : decode cX5_setPlace 38 = .ok (.istore_n 3, 1) := by decide +kernel
theorem dX5_setPlace_39 : decode cX5_setPlace 39 = .ok (.aload_n 0, 1) := by decide +kernel
theorem dX5_setPlace_40 : decode cX5_setPlace 40 = .ok (.getfield 42, 3) := by decide +kernel
theorem dX5_setPlace_43 : decode cX5_setPlace 43 = .ok (.iload_n 1, 1) := by decide +kernel
theorem dX5_setPlace_44 : decode cX5_setPlace 44 = .ok (.iload_n 2, 1) := by decide +kernel
theorem dX5_setPlace_45 : decode cX5_setPlace 45 = .ok (.invokevirtual 97, 3) := by decide +kernel
theorem dX5_setPlace_48 : decode cX5_setPlace 48 = .ok (.iload_n 3, 1) := by decide +kernel
theorem dX5_setPlace_49 : decode cX5_setPlace 49 = .ok (.ireturn, 1) := by decide +kernel
theorem dX5_setOf_0 : decode cX5_setOf 0 = .ok (.aload_n 0, 1) := by decide +kernel
theorem dX5_setOf_1 : decode cX5_setOf 1 = .ok (.getfield 42, 3) := by decide +kernel
theorem dX5_setOf_4 : decode cX5_setOf 4 = .ok (.iload_n 2, 1) := by decide +kernel
theorem dX5_setOf_5 : decode cX5_setOf 5 = .ok (.invokevirtual 90, 3) := by decide +kernel
theorem dX5_setOf_8 : decode cX5_setOf 8 = .ok (.ifCond .eq 19, 3) := by decide +kernel
theorem dX5_setOf_11 : decode cX5_setOf 11 = .ok (.iload_n 2, 1) := by decide +kernel
theorem dX5_setOf_12 : decode cX5_setOf 12 = .ok (.aload_n 1, 1) := by decide +kernel
theorem dX5_setOf_13 : decode cX5_setOf 13 = .ok (.arraylength, 1) := by decide +kernel
theorem dX5_setOf_14 : decode cX5_setOf 14 = .ok (.if_icmp .ge 13, 3) := by decide +kernel
theorem dX5_setOf_17 : decode cX5_setOf 17 = .ok (.iload_n 3, 1) := by decide +kernel
theorem dX5_setOf_18 : decode cX5_setOf 18 = .ok (.iconst 0, 1) := by decide +kernel
theorem dX5_setOf_19 : decode cX5_setOf 19 = .ok (.iload 4, 2) := by decide +kernel
theorem dX5_setOf_21 : decode cX5_setOf 21 = .ok (.invokestatic 82, 3) := by decide +kernel
theorem dX5_setOf_24 : decode cX5_setOf 24 = .ok (.ifCond .ne 7, 3) := by decide +kernel
theorem dX5_setOf_27 : decode cX5_setOf 27 = .ok (.sipush (-1000), 3) := by decide +kernel
theorem dX5_setOf_30 : decode cX5_setOf 30 = .ok (.ireturn, 1) := by decide +kernel
theorem dX5_setOf_31 : decode cX5_setOf 31 = .ok (.aload_n 1, 1) := by decide +kernel
theorem dX5_setOf_32 : decode cX5_setOf 32 = .ok (.iload_n 2, 1) := by decide +kernel
theorem dX5_setOf_33 : decode cX5_setOf 33 = .ok (.iaload, 1) := by decide +kernel
theorem dX5_setOf_34 : decode cX5_setOf 34 = .ok (.istore 5, 2) := by decide +kernel
theorem dX5_setOf_36 : decode cX5_setOf 36 = .ok (.aload_n 1, 1) := by decide +kernel
theorem dX5_setOf_37 : decode cX5_setOf 37 = .ok (.iload_n 2, 1) := by decide +kernel
theorem dX5_setOf_38 : decode cX5_setOf 38 = .ok (.iload_n 3, 1) := by decide +kernel
theorem dX5_setOf_39 : decode cX5_setOf 39 = .ok (.iastore, 1) := by decide +kernel
theorem dX5_setOf_40 : decode cX5_setOf 40 = .ok (.iload 5, 2) := by decide +kernel
theorem dX5_setOf_42 : decode cX5_setOf 42 = .ok (.ireturn, 1) := by decide +kernel
theorem dX5_player_0 : decode cX5_player 0 = .ok (.aload_n 0, 1) := by decide +kernel
theorem dX5_player_1 : decode cX5_player 1 = .ok (.getfield 42, 3) := by decide +kernel
theorem dX5_player_4 : decode cX5_player 4 = .ok (.iload_n 1, 1) := by decide +kernel
theorem dX5_player_5 : decode cX5_player 5 = .ok (.iload_n 2, 1) := by decide +kernel
theorem dX5_player_6 : decode cX5_player 6 = .ok (.invokevirtual 101, 3) := by decide +kernel
theorem dX5_player_9 : decode cX5_player 9 = .ok (.ireturn, 1) := by decide +kernel
theorem dX5_told_0 : decode cX5_told 0 = .ok (.iload_n 2, 1) := by decide +kernel
theorem dX5_told_1 : decode cX5_told 1 = .ok (.ifCond .ne 11, 3) := by decide +kernel
theorem dX5_told_4 : decode cX5_told 4 = .ok (.aload_n 0, 1) := by decide +kernel
theorem dX5_told_5 : decode cX5_told 5 = .ok (.getfield 42, 3) := by decide +kernel
theorem dX5_told_8 : decode cX5_told 8 = .ok (.getfield 86, 3) := by decide +kernel
theorem dX5_told_11 : decode cX5_told 11 = .ok (.ireturn, 1) := by decide +kernel
theorem dX5_told_12 : decode cX5_told 12 = .ok (.iload_n 2, 1) := by decide +kernel
theorem dX5_told_13 : decode cX5_told 13 = .ok (.iconst 1, 1) := by decide +kernel
theorem dX5_told_14 : decode cX5_told 14 = .ok (.if_icmp .ne 28, 3) := by decide +kernel
theorem dX5_told_17 : decode cX5_told 17 = .ok (.iload_n 1, 1) := by decide +kernel
theorem dX5_told_18 : decode cX5_told 18 = .ok (.iconst 0, 1) := by decide +kernel
theorem dX5_told_19 : decode cX5_told 19 = .ok (.bipush 7, 2) := by decide +kernel
theorem dX5_told_21 : decode cX5_told 21 = .ok (.invokestatic 82, 3) := by decide +kernel
theorem dX5_told_24 : decode cX5_told 24 = .ok (.ifCond .eq 14, 3) := by decide +kernel
theorem dX5_told_27 : decode cX5_told 27 = .ok (.aload_n 0, 1) := by decide +kernel
theorem dX5_told_28 : decode cX5_told 28 = .ok (.getfield 42, 3) := by decide +kernel
theorem dX5_told_31 : decode cX5_told 31 = .ok (.iload_n 1, 1) := by decide +kernel
theorem dX5_told_32 : decode cX5_told 32 = .ok (.invokevirtual 94, 3) := by decide +kernel
theorem dX5_told_35 : decode cX5_told 35 = .ok (.goto 6, 3) := by decide +kernel
theorem dX5_told_38 : decode cX5_told 38 = .ok (.sipush (-1000), 3) := by decide +kernel
theorem dX5_told_41 : decode cX5_told 41 = .ok (.ireturn, 1) := by decide +kernel
theorem dX5_told_42 : decode cX5_told 42 = .ok (.aload_n 0, 1) := by decide +kernel
theorem dX5_told_43 : decode cX5_told 43 = .ok (.getfield 42, 3) := by decide +kernel
theorem dX5_told_46 : decode cX5_told 46 = .ok (.iload_n 1, 1) := by decide +kernel
theorem dX5_told_47 : decode cX5_told 47 = .ok (.invokevirtual 90, 3) := by decide +kernel
theorem dX5_told_50 : decode cX5_told 50 = .ok (.ifCond .ne 7, 3) := by decide +kernel
theorem dX5_told_53 : decode cX5_told 53 = .ok (.sipush (-1000), 3) := by decide +kernel
theorem dX5_told_56 : decode cX5_told 56 = .ok (.ireturn, 1) := by decide +kernel
theorem dX5_told_57 : decode cX5_told 57 = .ok (.iload_n 2, 1) := by decide +kernel
theorem dX5_told_58 : decode cX5_told 58 = .ok (.tableswitch 97 2 7 #[38, 48, 58, 68, 78, 88], 38) := by decide +kernel
theorem dX5_told_96 : decode cX5_told 96 = .ok (.aload_n 0, 1) := by decide +kernel
theorem dX5_told_97 : decode cX5_told 97 = .ok (.getfield 42, 3) := by decide +kernel
theorem dX5_told_100 : decode cX5_told 100 = .ok (.getfield 71, 3) := by decide +kernel
theorem dX5_told_103 : decode cX5_told 103 = .ok (.iload_n 1, 1) := by decide +kernel
theorem dX5_told_104 : decode cX5_told 104 = .ok (.iaload, 1) := by decide +kernel
theorem dX5_told_105 : decode cX5_told 105 = .ok (.ireturn, 1) := by decide +kernel
theorem dX5_told_106 : decode cX5_told 106 = .ok (.aload_n 0, 1) := by decide +kernel
theorem dX5_told_107 : decode cX5_told 107 = .ok (.getfield 42, 3) := by decide +kernel
theorem dX5_told_110 : decode cX5_told 110 = .ok (.getfield 79, 3) := by decide +kernel
theorem dX5_told_113 : decode cX5_told 113 = .ok (.iload_n 1, 1) := by decide +kernel
theorem dX5_told_114 : decode cX5_told 114 = .ok (.iaload, 1) := by decide +kernel
theorem dX5_told_115 : decode cX5_told 115 = .ok (.ireturn, 1) := by decide +kernel
theorem dX5_told_116 : decode cX5_told 116 = .ok (.aload_n 0, 1) := by decide +kernel
theorem dX5_told_117 : decode cX5_told 117 = .ok (.getfield 42, 3) := by decide +kernel
theorem dX5_told_120 : decode cX5_told 120 = .ok (.getfield 104, 3) := by decide +kernel
theorem dX5_told_123 : decode cX5_told 123 = .ok (.iload_n 1, 1) := by decide +kernel
theorem dX5_told_124 : decode cX5_told 124 = .ok (.iaload, 1) := by decide +kernel
theorem dX5_told_125 : decode cX5_told 125 = .ok (.ireturn, 1) := by decide +kernel
theorem dX5_told_126 : decode cX5_told 126 = .ok (.aload_n 0, 1) := by decide +kernel
theorem dX5_told_127 : decode cX5_told 127 = .ok (.getfield 42, 3) := by decide +kernel
theorem dX5_told_130 : decode cX5_told 130 = .ok (.getfield 107, 3) := by decide +kernel
theorem dX5_told_133 : decode cX5_told 133 = .ok (.iload_n 1, 1) := by decide +kernel
theorem dX5_told_134 : decode cX5_told 134 = .ok (.iaload, 1) := by decide +kernel
theorem dX5_told_135 : decode cX5_told 135 = .ok (.ireturn, 1) := by decide +kernel
theorem dX5_told_136 : decode cX5_told 136 = .ok (.aload_n 0, 1) := by decide +kernel
theorem dX5_told_137 : decode cX5_told 137 = .ok (.getfield 42, 3) := by decide +kernel
theorem dX5_told_140 : decode cX5_told 140 = .ok (.getfield 110, 3) := by decide +kernel
theorem dX5_told_143 : decode cX5_told 143 = .ok (.iload_n 1, 1) := by decide +kernel
theorem dX5_told_144 : decode cX5_told 144 = .ok (.iaload, 1) := by decide +kernel
theorem dX5_told_145 : decode cX5_told 145 = .ok (.ireturn, 1) := by decide +kernel
theorem dX5_told_146 : decode cX5_told 146 = .ok (.aload_n 0, 1) := by decide +kernel
theorem dX5_told_147 : decode cX5_told 147 = .ok (.getfield 42, 3) := by decide +kernel
theorem dX5_told_150 : decode cX5_told 150 = .ok (.iload_n 1, 1) := by decide +kernel
theorem dX5_told_151 : decode cX5_told 151 = .ok (.invokevirtual 113, 3) := by decide +kernel
theorem dX5_told_154 : decode cX5_told 154 = .ok (.ireturn, 1) := by decide +kernel
theorem dX5_told_155 : decode cX5_told 155 = .ok (.sipush (-1000), 3) := by decide +kernel
theorem dX5_told_158 : decode cX5_told 158 = .ok (.ireturn, 1) := by decide +kernel
theorem dX5_asks_0 : decode cX5_asks 0 = .ok (.aload_n 0, 1) := by decide +kernel
theorem dX5_asks_1 : decode cX5_asks 1 = .ok (.getfield 42, 3) := by decide +kernel
theorem dX5_asks_4 : decode cX5_asks 4 = .ok (.iload_n 1, 1) := by decide +kernel
theorem dX5_asks_5 : decode cX5_asks 5 = .ok (.iload_n 2, 1) := by decide +kernel
theorem dX5_asks_6 : decode cX5_asks 6 = .ok (.invokevirtual 116, 3) := by decide +kernel
theorem dX5_asks_9 : decode cX5_asks 9 = .ok (.ifCond .ne 7, 3) := by decide +kernel
theorem dX5_asks_12 : decode cX5_asks 12 = .ok (.sipush (-1000), 3) := by decide +kernel
theorem dX5_asks_15 : decode cX5_asks 15 = .ok (.ireturn, 1) := by decide +kernel
theorem dX5_asks_16 : decode cX5_asks 16 = .ok (.iload_n 3, 1) := by decide +kernel
theorem dX5_asks_17 : decode cX5_asks 17 = .ok (.tableswitch 98 0 5 #[39, 49, 59, 70, 81, 91], 39) := by decide +kernel
theorem dX5_asks_56 : decode cX5_asks 56 = .ok (.aload_n 0, 1) := by decide +kernel
theorem dX5_asks_57 : decode cX5_asks 57 = .ok (.getfield 42, 3) := by decide +kernel
theorem dX5_asks_60 : decode cX5_asks 60 = .ok (.iload_n 1, 1) := by decide +kernel
theorem dX5_asks_61 : decode cX5_asks 61 = .ok (.iload_n 2, 1) := by decide +kernel
theorem dX5_asks_62 : decode cX5_asks 62 = .ok (.invokevirtual 120, 3) := by decide +kernel
theorem dX5_asks_65 : decode cX5_asks 65 = .ok (.ireturn, 1) := by decide +kernel
theorem dX5_asks_66 : decode cX5_asks 66 = .ok (.aload_n 0, 1) := by decide +kernel
theorem dX5_asks_67 : decode cX5_asks 67 = .ok (.getfield 42, 3) := by decide +kernel
theorem dX5_asks_70 : decode cX5_asks 70 = .ok (.iload_n 2, 1) := by decide +kernel
theorem dX5_asks_71 : decode cX5_asks 71 = .ok (.iload_n 1, 1) := by decide +kernel
theorem dX5_asks_72 : decode cX5_asks 72 = .ok (.invokevirtual 120, 3) := by decide +kernel
theorem dX5_asks_75 : decode cX5_asks 75 = .ok (.ireturn, 1) := by decide +kernel
theorem dX5_asks_76 : decode cX5_asks 76 = .ok (.aload_n 0, 1) := by decide +kernel
theorem dX5_asks_77 : decode cX5_asks 77 = .ok (.getfield 42, 3) := by decide +kernel
theorem dX5_asks_80 : decode cX5_asks 80 = .ok (.iload_n 1, 1) := by decide +kernel
theorem dX5_asks_81 : decode cX5_asks 81 = .ok (.iload_n 2, 1) := by decide +kernel
theorem dX5_asks_82 : decode cX5_asks 82 = .ok (.iconst 1, 1) := by decide +kernel
theorem dX5_asks_83 : decode cX5_asks 83 = .ok (.invokevirtual 123, 3) := by decide +kernel
theorem dX5_asks_86 : decode cX5_asks 86 = .ok (.ireturn, 1) := by decide +kernel
theorem dX5_asks_87 : decode cX5_asks 87 = .ok (.aload_n 0, 1) := by decide +kernel
theorem dX5_asks_88 : decode cX5_asks 88 = .ok (.getfield 42, 3) := by decide +kernel
theorem dX5_asks_91 : decode cX5_asks 91 = .ok (.iload_n 1, 1) := by decide +kernel
theorem dX5_asks_92 : decode cX5_asks 92 = .ok (.iload_n 2, 1) := by decide +kernel
theorem dX5_asks_93 : decode cX5_asks 93 = .ok (.iconst 0, 1) := by decide +kernel
theorem dX5_asks_94 : decode cX5_asks 94 = .ok (.invokevirtual 123, 3) := by decide +kernel
theorem dX5_asks_97 : decode cX5_asks 97 = .ok (.ireturn, 1) := by decide +kernel
theorem dX5_asks_98 : decode cX5_asks 98 = .ok (.aload_n 0, 1) := by decide +kernel
theorem dX5_asks_99 : decode cX5_asks 99 = .ok (.getfield 42, 3) := by decide +kernel
theorem dX5_asks_102 : decode cX5_asks 102 = .ok (.iload_n 1, 1) := by decide +kernel
theorem dX5_asks_103 : decode cX5_asks 103 = .ok (.iload_n 2, 1) := by decide +kernel
theorem dX5_asks_104 : decode cX5_asks 104 = .ok (.invokevirtual 127, 3) := by decide +kernel
theorem dX5_asks_107 : decode cX5_asks 107 = .ok (.ireturn, 1) := by decide +kernel
theorem dX5_asks_108 : decode cX5_asks 108 = .ok (.aload_n 0, 1) := by decide +kernel
theorem dX5_asks_109 : decode cX5_asks 109 = .ok (.iload_n 1, 1) := by decide +kernel
theorem dX5_asks_110 : decode cX5_asks 110 = .ok (.iload_n 2, 1) := by decide +kernel
theorem dX5_asks_111 : decode cX5_asks 111 = .ok (.invokevirtual 130, 3) := by decide +kernel
theorem dX5_asks_114 : decode cX5_asks 114 = .ok (.ireturn, 1) := by decide +kernel
theorem dX5_asks_115 : decode cX5_asks 115 = .ok (.sipush (-1000), 3) := by decide +kernel
theorem dX5_asks_118 : decode cX5_asks 118 = .ok (.ireturn, 1) := by decide +kernel
theorem dX5_manyBehindGame_0 : decode cX5_manyBehindGame 0 = .ok (.aload_n 0, 1) := by decide +kernel
theorem dX5_manyBehindGame_1 : decode cX5_manyBehindGame 1 = .ok (.invokevirtual 133, 3) := by decide +kernel
theorem dX5_manyBehindGame_4 : decode cX5_manyBehindGame 4 = .ok (.astore_n 3, 1) := by decide +kernel
theorem dX5_manyBehindGame_5 : decode cX5_manyBehindGame 5 = .ok (.aload_n 3, 1) := by decide +kernel
theorem dX5_manyBehindGame_6 : decode cX5_manyBehindGame 6 = .ok (.iload_n 1, 1) := by decide +kernel
theorem dX5_manyBehindGame_7 : decode cX5_manyBehindGame 7 = .ok (.iload_n 2, 1) := by decide +kernel
theorem dX5_manyBehindGame_8 : decode cX5_manyBehindGame 8 = .ok (.invokevirtual 137, 3) := by decide +kernel
theorem dX5_manyBehindGame_11 : decode cX5_manyBehindGame 11 = .ok (.pop, 1) := by decide +kernel
theorem dX5_manyBehindGame_12 : decode cX5_manyBehindGame 12 = .ok (.aload_n 3, 1) := by decide +kernel
theorem dX5_manyBehindGame_13 : decode cX5_manyBehindGame 13 = .ok (.iload_n 1, 1) := by decide +kernel
theorem dX5_manyBehindGame_14 : decode cX5_manyBehindGame 14 = .ok (.invokevirtual 113, 3) := by decide +kernel
theorem dX5_manyBehindGame_17 : decode cX5_manyBehindGame 17 = .ok (.ireturn, 1) := by decide +kernel
theorem dX5_feed_0 : decode cX5_feed 0 = .ok (.iload_n 1, 1) := by decide +kernel
theorem dX5_feed_1 : decode cX5_feed 1 = .ok (.iconst 0, 1) := by decide +kernel
theorem dX5_feed_2 : decode cX5_feed 2 = .ok (.sipush 255, 3) := by decide +kernel
theorem dX5_feed_5 : decode cX5_feed 5 = .ok (.invokestatic 82, 3) := by decide +kernel
theorem dX5_feed_8 : decode cX5_feed 8 = .ok (.ifCond .ne 6, 3) := by decide +kernel
theorem dX5_feed_11 : decode cX5_feed 11 = .ok (.bipush (-2), 2) := by decide +kernel
theorem dX5_feed_13 : decode cX5_feed 13 = .ok (.ireturn, 1) := by decide +kernel
theorem dX5_feed_14 : decode cX5_feed 14 = .ok (.aload_n 0, 1) := by decide +kernel
theorem dX5_feed_15 : decode cX5_feed 15 = .ok (.getfield 19, 3) := by decide +kernel
theorem dX5_feed_18 : decode cX5_feed 18 = .ok (.iload_n 1, 1) := by decide +kernel
theorem dX5_feed_19 : decode cX5_feed 19 = .ok (.invokevirtual 140, 3) := by decide +kernel
theorem dX5_feed_22 : decode cX5_feed 22 = .ok (.ifCond .eq 13, 3) := by decide +kernel
theorem dX5_feed_25 : decode cX5_feed 25 = .ok (.aload_n 0, 1) := by decide +kernel
theorem dX5_feed_26 : decode cX5_feed 26 = .ok (.getfield 19, 3) := by decide +kernel
theorem dX5_feed_29 : decode cX5_feed 29 = .ok (.getfield 143, 3) := by decide +kernel
theorem dX5_feed_32 : decode cX5_feed 32 = .ok (.goto 5, 3) := by decide +kernel
theorem dX5_feed_35 : decode cX5_feed 35 = .ok (.bipush (-4), 2) := by decide +kernel
theorem dX5_feed_37 : decode cX5_feed 37 = .ok (.ireturn, 1) := by decide +kernel
theorem dX5_text_0 : decode cX5_text 0 = .ok (.aload_n 0, 1) := by decide +kernel
theorem dX5_text_1 : decode cX5_text 1 = .ok (.getfield 10, 3) := by decide +kernel
theorem dX5_text_4 : decode cX5_text 4 = .ok (.getfield 146, 3) := by decide +kernel
theorem dX5_text_7 : decode cX5_text 7 = .ok (.bipush 6, 2) := by decide +kernel
theorem dX5_text_9 : decode cX5_text 9 = .ok (.if_icmp .lt 6, 3) := by decide +kernel
theorem dX5_text_12 : decode cX5_text 12 = .ok (.bipush (-4), 2) := by decide +kernel
theorem dX5_text_14 : decode cX5_text 14 = .ok (.ireturn, 1) := by decide +kernel
theorem dX5_text_15 : decode cX5_text 15 = .ok (.aload_n 0, 1) := by decide +kernel
theorem dX5_text_16 : decode cX5_text 16 = .ok (.getfield 19, 3) := by decide +kernel
theorem dX5_text_19 : decode cX5_text 19 = .ok (.invokevirtual 29, 3) := by decide +kernel
theorem dX5_text_22 : decode cX5_text 22 = .ok (.astore_n 1, 1) := by decide +kernel
theorem dX5_text_23 : decode cX5_text 23 = .ok (.aload_n 1, 1) := by decide +kernel
theorem dX5_text_24 : decode cX5_text 24 = .ok (.ifnonnull 14, 3) := by decide +kernel
theorem dX5_text_27 : decode cX5_text 27 = .ok (.bipush (-100), 2) := by decide +kernel
theorem dX5_text_29 : decode cX5_text 29 = .ok (.aload_n 0, 1) := by decide +kernel
theorem dX5_text_30 : decode cX5_text 30 = .ok (.getfield 19, 3) := by decide +kernel
theorem dX5_text_33 : decode cX5_text 33 = .ok (.getfield 149, 3) := by decide +kernel
theorem dX5_text_36 : decode cX5_text 36 = .ok (.isub, 1) := by decide +kernel
theorem dX5_text_37 : decode cX5_text 37 = .ok (.ireturn, 1) := by decide +kernel
theorem dX5_text_38 : decode cX5_text 38 = .ok (.aload_n 0, 1) := by decide +kernel
theorem dX5_text_39 : decode cX5_text 39 = .ok (.getfield 10, 3) := by decide +kernel
theorem dX5_text_42 : decode cX5_text 42 = .ok (.aload_n 1, 1) := by decide +kernel
theorem dX5_text_43 : decode cX5_text 43 = .ok (.invokevirtual 33, 3) := by decide +kernel
theorem dX5_text_46 : decode cX5_text 46 = .ok (.ireturn, 1) := by decide +kernel
theorem dX5_force_0 : decode cX5_force 0 = .ok (.iload_n 1, 1) := by decide +kernel
theorem dX5_force_1 : decode cX5_force 1 = .ok (.iconst 0, 1) := by decide +kernel
theorem dX5_force_2 : decode cX5_force 2 = .ok (.aload_n 0, 1) := by decide +kernel
theorem dX5_force_3 : decode cX5_force 3 = .ok (.getfield 10, 3) := by decide +kernel
theorem dX5_force_6 : decode cX5_force 6 = .ok (.getfield 146, 3) := by decide +kernel
theorem dX5_force_9 : decode cX5_force 9 = .ok (.iconst 1, 1) := by decide +kernel
theorem dX5_force_10 : decode cX5_force 10 = .ok (.isub, 1) := by decide +kernel
theorem dX5_force_11 : decode cX5_force 11 = .ok (.invokestatic 82, 3) := by decide +kernel
theorem dX5_force_14 : decode cX5_force 14 = .ok (.ifCond .ne 6, 3) := by decide +kernel
theorem dX5_force_17 : decode cX5_force 17 = .ok (.bipush (-2), 2) := by decide +kernel
theorem dX5_force_19 : decode cX5_force 19 = .ok (.ireturn, 1) := by decide +kernel
theorem dX5_force_20 : decode cX5_force 20 = .ok (.aload_n 0, 1) := by decide +kernel
theorem dX5_force_21 : decode cX5_force 21 = .ok (.getfield 42, 3) := by decide +kernel
theorem dX5_force_24 : decode cX5_force 24 = .ok (.getfield 152, 3) := by decide +kernel
theorem dX5_force_27 : decode cX5_force 27 = .ok (.istore_n 2, 1) := by decide +kernel
theorem dX5_force_28 : decode cX5_force 28 = .ok (.aload_n 0, 1) := by decide +kernel
theorem dX5_force_29 : decode cX5_force 29 = .ok (.getfield 42, 3) := by decide +kernel
theorem dX5_force_32 : decode cX5_force 32 = .ok (.iload_n 1, 1) := by decide +kernel
theorem dX5_force_33 : decode cX5_force 33 = .ok (.putfield 152, 3) := by decide +kernel
theorem dX5_force_36 : decode cX5_force 36 = .ok (.iload_n 2, 1) := by decide +kernel
theorem dX5_force_37 : decode cX5_force 37 = .ok (.ireturn, 1) := by decide +kernel
theorem dX5_game_0 : decode cX5_game 0 = .ok (.aload_n 0, 1) := by decide +kernel
theorem dX5_game_1 : decode cX5_game 1 = .ok (.getfield 42, 3) := by decide +kernel
theorem dX5_game_4 : decode cX5_game 4 = .ok (.iload_n 1, 1) := by decide +kernel
theorem dX5_game_5 : decode cX5_game 5 = .ok (.iload_n 2, 1) := by decide +kernel
theorem dX5_game_6 : decode cX5_game 6 = .ok (.invokevirtual 116, 3) := by decide +kernel
theorem dX5_game_9 : decode cX5_game 9 = .ok (.ifCond .ne 6, 3) := by decide +kernel
theorem dX5_game_12 : decode cX5_game 12 = .ok (.bipush (-2), 2) := by decide +kernel
theorem dX5_game_14 : decode cX5_game 14 = .ok (.ireturn, 1) := by decide +kernel
theorem dX5_game_15 : decode cX5_game 15 = .ok (.aload_n 0, 1) := by decide +kernel
theorem dX5_game_16 : decode cX5_game 16 = .ok (.getfield 42, 3) := by decide +kernel
theorem dX5_game_19 : decode cX5_game 19 = .ok (.getfield 86, 3) := by decide +kernel
theorem dX5_game_22 : decode cX5_game 22 = .ok (.sipush 999, 3) := by decide +kernel
theorem dX5_game_25 : decode cX5_game 25 = .ok (.if_icmp .lt 6, 3) := by decide +kernel
theorem dX5_game_28 : decode cX5_game 28 = .ok (.bipush (-3), 2) := by decide +kernel
theorem dX5_game_30 : decode cX5_game 30 = .ok (.ireturn, 1) := by decide +kernel
theorem dX5_game_31 : decode cX5_game 31 = .ok (.aload_n 0, 1) := by decide +kernel
theorem dX5_game_32 : decode cX5_game 32 = .ok (.getfield 42, 3) := by decide +kernel
theorem dX5_game_35 : decode cX5_game 35 = .ok (.iload_n 1, 1) := by decide +kernel
theorem dX5_game_36 : decode cX5_game 36 = .ok (.iload_n 2, 1) := by decide +kernel
theorem dX5_game_37 : decode cX5_game 37 = .ok (.invokevirtual 137, 3) := by decide +kernel
theorem dX5_game_40 : decode cX5_game 40 = .ok (.ireturn, 1) := by decide +kernel
theorem dX5_evening_0 : decode cX5_evening 0 = .ok (.aload_n 0, 1) := by decide +kernel
theorem dX5_evening_1 : decode cX5_evening 1 = .ok (.iload_n 1, 1) := by decide +kernel
theorem dX5_evening_2 : decode cX5_evening 2 = .ok (.invokevirtual 155, 3) := by decide +kernel
theorem dX5_evening_5 : decode cX5_evening 5 = .ok (.astore_n 3, 1) := by decide +kernel
theorem dX5_evening_6 : decode cX5_evening 6 = .ok (.aload_n 3, 1) := by decide +kernel
theorem dX5_evening_7 : decode cX5_evening 7 = .ok (.ifnull 30, 3) := by decide +kernel
theorem dX5_evening_10 : decode cX5_evening 10 = .ok (.iload_n 2, 1) := by decide +kernel
theorem dX5_evening_11 : decode cX5_evening 11 = .ok (.iconst 0, 1) := by decide +kernel
theorem dX5_evening_12 : decode cX5_evening 12 = .ok (.bipush 8, 2) := by decide +kernel
theorem dX5_evening_14 : decode cX5_evening 14 = .ok (.invokestatic 82, 3) := by decide +kernel
theorem dX5_evening_17 : decode cX5_evening 17 = .ok (.ifCond .eq 20, 3) := by decide +kernel
theorem dX5_evening_20 : decode cX5_evening 20 = .ok (.iload_n 2, 1) := by decide +kernel
theorem dX5_evening_21 : decode cX5_evening 21 = .ok (.bipush 6, 2) := by decide +kernel
theorem dX5_evening_23 : decode cX5_evening 23 = .ok (.if_icmp .ge 17, 3) := by decide +kernel
theorem dX5_evening_26 : decode cX5_evening 26 = .ok (.aload_n 0, 1) := by decide +kernel
theorem dX5_evening_27 : decode cX5_evening 27 = .ok (.getfield 42, 3) := by decide +kernel
theorem dX5_evening_30 : decode cX5_evening 30 = .ok (.iload_n 2, 1) := by decide +kernel
theorem dX5_evening_31 : decode cX5_evening 31 = .ok (.invokevirtual 90, 3) := by decide +kernel
theorem dX5_evening_34 : decode cX5_evening 34 = .ok (.ifCond .ne 6, 3) := by decide +kernel
theorem dX5_evening_37 : decode cX5_evening 37 = .ok (.bipush (-2), 2) := by decide +kernel
theorem dX5_evening_39 : decode cX5_evening 39 = .ok (.ireturn, 1) := by decide +kernel
theorem dX5_evening_40 : decode cX5_evening 40 = .ok (.aload_n 3, 1) := by decide +kernel
theorem dX5_evening_41 : decode cX5_evening 41 = .ok (.invokevirtual 159, 3) := by decide +kernel
theorem dX5_evening_44 : decode cX5_evening 44 = .ok (.ifCond .eq 6, 3) := by decide +kernel
theorem dX5_evening_47 : decode cX5_evening 47 = .ok (.bipush (-11), 2) := by decide +kernel
theorem dX5_evening_49 : decode cX5_evening 49 = .ok (.ireturn, 1) := by decide +kernel
theorem dX5_evening_50 : decode cX5_evening 50 = .ok (.aload_n 0, 1) := by decide +kernel
theorem dX5_evening_51 : decode cX5_evening 51 = .ok (.aload_n 3, 1) := by decide +kernel
theorem dX5_evening_52 : decode cX5_evening 52 = .ok (.invokevirtual 163, 3) := by decide +kernel
theorem dX5_evening_55 : decode cX5_evening 55 = .ok (.ifCond .ne 6, 3) := by decide +kernel
theorem dX5_evening_58 : decode cX5_evening 58 = .ok (.bipush (-2), 2) := by decide +kernel
theorem dX5_evening_60 : decode cX5_evening 60 = .ok (.ireturn, 1) := by decide +kernel
theorem dX5_evening_61 : decode cX5_evening 61 = .ok (.aload_n 0, 1) := by decide +kernel
theorem dX5_evening_62 : decode cX5_evening 62 = .ok (.invokevirtual 133, 3) := by decide +kernel
theorem dX5_evening_65 : decode cX5_evening 65 = .ok (.astore 4, 2) := by decide +kernel
theorem dX5_evening_67 : decode cX5_evening 67 = .ok (.aload 4, 2) := by decide +kernel
theorem dX5_evening_69 : decode cX5_evening 69 = .ok (.aload_n 3, 1) := by decide +kernel
theorem dX5_evening_70 : decode cX5_evening 70 = .ok (.invokestatic 167, 3) := by decide +kernel
theorem dX5_evening_73 : decode cX5_evening 73 = .ok (.istore 5, 2) := by decide +kernel
theorem dX5_evening_75 : decode cX5_evening 75 = .ok (.iload_n 2, 1) := by decide +kernel
theorem dX5_evening_76 : decode cX5_evening 76 = .ok (.tableswitch 43 6 8 #[28, 34, 37], 28) := by decide +kernel
theorem dX5_evening_104 : decode cX5_evening 104 = .ok (.aload 4, 2) := by decide +kernel
theorem dX5_evening_106 : decode cX5_evening 106 = .ok (.invokevirtual 171, 3) := by decide +kernel
theorem dX5_evening_109 : decode cX5_evening 109 = .ok (.ireturn, 1) := by decide +kernel
theorem dX5_evening_110 : decode cX5_evening 110 = .ok (.iload 5, 2) := by decide +kernel
theorem dX5_evening_112 : decode cX5_evening 112 = .ok (.ireturn, 1) := by decide +kernel
theorem dX5_evening_113 : decode cX5_evening 113 = .ok (.aload 4, 2) := by decide +kernel
theorem dX5_evening_115 : decode cX5_evening 115 = .ok (.invokevirtual 175, 3) := by decide +kernel
theorem dX5_evening_118 : decode cX5_evening 118 = .ok (.ireturn, 1) := by decide +kernel
theorem dX5_evening_119 : decode cX5_evening 119 = .ok (.aload 4, 2) := by decide +kernel
theorem dX5_evening_121 : decode cX5_evening 121 = .ok (.iload_n 2, 1) := by decide +kernel
theorem dX5_evening_122 : decode cX5_evening 122 = .ok (.invokevirtual 113, 3) := by decide +kernel
theorem dX5_evening_125 : decode cX5_evening 125 = .ok (.ireturn, 1) := by decide +kernel
theorem dX5_play_0 : decode cX5_play 0 = .ok (.aload_n 0, 1) := by decide +kernel
theorem dX5_play_1 : decode cX5_play 1 = .ok (.iload_n 1, 1) := by decide +kernel
theorem dX5_play_2 : decode cX5_play 2 = .ok (.invokevirtual 155, 3) := by decide +kernel
theorem dX5_play_5 : decode cX5_play 5 = .ok (.astore_n 2, 1) := by decide +kernel
theorem dX5_play_6 : decode cX5_play 6 = .ok (.aload_n 2, 1) := by decide +kernel
theorem dX5_play_7 : decode cX5_play 7 = .ok (.ifnonnull 6, 3) := by decide +kernel
theorem dX5_play_10 : decode cX5_play 10 = .ok (.bipush (-2), 2) := by decide +kernel
theorem dX5_play_12 : decode cX5_play 12 = .ok (.ireturn, 1) := by decide +kernel
theorem dX5_play_13 : decode cX5_play 13 = .ok (.aload_n 2, 1) := by decide +kernel
theorem dX5_play_14 : decode cX5_play 14 = .ok (.invokevirtual 159, 3) := by decide +kernel
theorem dX5_play_17 : decode cX5_play 17 = .ok (.ifCond .eq 6, 3) := by decide +kernel
theorem dX5_play_20 : decode cX5_play 20 = .ok (.bipush (-11), 2) := by decide +kernel
theorem dX5_play_22 : decode cX5_play 22 = .ok (.ireturn, 1) := by decide +kernel
theorem dX5_play_23 : decode cX5_play 23 = .ok (.aload_n 0, 1) := by decide +kernel
theorem dX5_play_24 : decode cX5_play 24 = .ok (.aload_n 2, 1) := by decide +kernel
theorem dX5_play_25 : decode cX5_play 25 = .ok (.invokevirtual 163, 3) := by decide +kernel
theorem dX5_play_28 : decode cX5_play 28 = .ok (.ifCond .ne 6, 3) := by decide +kernel
theorem dX5_play_31 : decode cX5_play 31 = .ok (.bipush (-2), 2) := by decide +kernel
theorem dX5_play_33 : decode cX5_play 33 = .ok (.ireturn, 1) := by decide +kernel
theorem dX5_play_34 : decode cX5_play 34 = .ok (.aload_n 0, 1) := by decide +kernel
theorem dX5_play_35 : decode cX5_play 35 = .ok (.getfield 42, 3) := by decide +kernel
theorem dX5_play_38 : decode cX5_play 38 = .ok (.getfield 86, 3) := by decide +kernel
theorem dX5_play_41 : decode cX5_play 41 = .ok (.aload_n 2, 1) := by decide +kernel
theorem dX5_play_42 : decode cX5_play 42 = .ok (.getfield 178, 3) := by decide +kernel
theorem dX5_play_45 : decode cX5_play 45 = .ok (.iadd, 1) := by decide +kernel
theorem dX5_play_46 : decode cX5_play 46 = .ok (.sipush 999, 3) := by decide +kernel
theorem dX5_play_49 : decode cX5_play 49 = .ok (.if_icmp .le 6, 3) := by decide +kernel
theorem dX5_play_52 : decode cX5_play 52 = .ok (.bipush (-3), 2) := by decide +kernel
theorem dX5_play_54 : decode cX5_play 54 = .ok (.ireturn, 1) := by decide +kernel
theorem dX5_play_55 : decode cX5_play 55 = .ok (.aload_n 0, 1) := by decide +kernel
theorem dX5_play_56 : decode cX5_play 56 = .ok (.getfield 42, 3) := by decide +kernel
theorem dX5_play_59 : decode cX5_play 59 = .ok (.aload_n 2, 1) := by decide +kernel
theorem dX5_play_60 : decode cX5_play 60 = .ok (.invokestatic 167, 3) := by decide +kernel
theorem dX5_play_63 : decode cX5_play 63 = .ok (.ireturn, 1) := by decide +kernel
theorem dX5_tellsGames_0 : decode cX5_tellsGames 0 = .ok (.iconst 0, 1) := by decide +kernel
theorem dX5_tellsGames_1 : decode cX5_tellsGames 1 = .ok (.istore_n 2, 1) := by decide +kernel
theorem dX5_tellsGames_2 : decode cX5_tellsGames 2 = .ok (.iload_n 2, 1) := by decide +kernel
theorem dX5_tellsGames_3 : decode cX5_tellsGames 3 = .ok (.aload_n 1, 1) := by decide +kernel
theorem dX5_tellsGames_4 : decode cX5_tellsGames 4 = .ok (.getfield 178, 3) := by decide +kernel
theorem dX5_tellsGames_7 : decode cX5_tellsGames 7 = .ok (.if_icmp .ge 37, 3) := by decide +kernel
theorem dX5_tellsGames_10 : decode cX5_tellsGames 10 = .ok (.aload_n 0, 1) := by decide +kernel
theorem dX5_tellsGames_11 : decode cX5_tellsGames 11 = .ok (.getfield 42, 3) := by decide +kernel
theorem dX5_tellsGames_14 : decode cX5_tellsGames 14 = .ok (.aload_n 1, 1) := by decide +kernel
theorem dX5_tellsGames_15 : decode cX5_tellsGames 15 = .ok (.iload_n 2, 1) := by decide +kernel
theorem dX5_tellsGames_16 : decode cX5_tellsGames 16 = .ok (.invokevirtual 179, 3) := by decide +kernel
theorem dX5_tellsGames_19 : decode cX5_tellsGames 19 = .ok (.bipush 10, 2) := by decide +kernel
theorem dX5_tellsGames_21 : decode cX5_tellsGames 21 = .ok (.idiv, 1) := by decide +kernel
theorem dX5_tellsGames_22 : decode cX5_tellsGames 22 = .ok (.aload_n 1, 1) := by decide +kernel
theorem dX5_tellsGames_23 : decode cX5_tellsGames 23 = .ok (.iload_n 2, 1) := by decide +kernel
theorem dX5_tellsGames_24 : decode cX5_tellsGames 24 = .ok (.invokevirtual 179, 3) := by decide +kernel
theorem dX5_tellsGames_27 : decode cX5_tellsGames 27 = .ok (.bipush 10, 2) := by decide +kernel
theorem dX5_tellsGames_29 : decode cX5_tellsGames 29 = .ok (.irem, 1) := by decide +kernel
theorem dX5_tellsGames_30 : decode cX5_tellsGames 30 = .ok (.invokevirtual 116, 3) := by decide +kernel
theorem dX5_tellsGames_33 : decode cX5_tellsGames 33 = .ok (.ifCond .ne 5, 3) := by decide +kernel
theorem dX5_tellsGames_36 : decode cX5_tellsGames 36 = .ok (.iconst 0, 1) := by decide +kernel
theorem dX5_tellsGames_37 : decode cX5_tellsGames 37 = .ok (.ireturn, 1) := by decide +kernel
theorem dX5_tellsGames_38 : decode cX5_tellsGames 38 = .ok (.iinc 2 1, 3) := by decide +kernel
theorem dX5_tellsGames_41 : decode cX5_tellsGames 41 = .ok (.goto (-39), 3) := by decide +kernel
theorem dX5_tellsGames_44 : decode cX5_tellsGames 44 = .ok (.iconst 1, 1) := by decide +kernel
theorem dX5_tellsGames_45 : decode cX5_tellsGames 45 = .ok (.ireturn, 1) := by decide +kernel
theorem dX5_playTold_0 : decode cX5_playTold 0 = .ok (.iconst 0, 1) := by decide +kernel
theorem dX5_playTold_1 : decode cX5_playTold 1 = .ok (.istore_n 2, 1) := by decide +kernel
theorem dX5_playTold_2 : decode cX5_playTold 2 = .ok (.iconst 0, 1) := by decide +kernel
theorem dX5_playTold_3 : decode cX5_playTold 3 = .ok (.istore_n 3, 1) := by decide +kernel
theorem dX5_playTold_4 : decode cX5_playTold 4 = .ok (.iload_n 3, 1) := by decide +kernel
theorem dX5_playTold_5 : decode cX5_playTold 5 = .ok (.aload_n 1, 1) := by decide +kernel
theorem dX5_playTold_6 : decode cX5_playTold 6 = .ok (.getfield 178, 3) := by decide +kernel
theorem dX5_playTold_9 : decode cX5_playTold 9 = .ok (.if_icmp .ge 36, 3) := by decide +kernel
theorem dX5_playTold_12 : decode cX5_playTold 12 = .ok (.aload_n 0, 1) := by decide +kernel
theorem dX5_playTold_13 : decode cX5_playTold 13 = .ok (.aload_n 1, 1) := by decide +kernel
theorem dX5_playTold_14 : decode cX5_playTold 14 = .ok (.iload_n 3, 1) := by decide +kernel
theorem dX5_playTold_15 : decode cX5_playTold 15 = .ok (.invokevirtual 179, 3) := by decide +kernel
theorem dX5_playTold_18 : decode cX5_playTold 18 = .ok (.bipush 10, 2) := by decide +kernel
theorem dX5_playTold_20 : decode cX5_playTold 20 = .ok (.idiv, 1) := by decide +kernel
theorem dX5_playTold_21 : decode cX5_playTold 21 = .ok (.aload_n 1, 1) := by decide +kernel
theorem dX5_playTold_22 : decode cX5_playTold 22 = .ok (.iload_n 3, 1) := by decide +kernel
theorem dX5_playTold_23 : decode cX5_playTold 23 = .ok (.invokevirtual 179, 3) := by decide +kernel
theorem dX5_playTold_26 : decode cX5_playTold 26 = .ok (.bipush 10, 2) := by decide +kernel
theorem dX5_playTold_28 : decode cX5_playTold 28 = .ok (.irem, 1) := by decide +kernel
theorem dX5_playTold_29 : decode cX5_playTold 29 = .ok (.invokevirtual 137, 3) := by decide +kernel
theorem dX5_playTold_32 : decode cX5_playTold 32 = .ok (.iconst (-1), 1) := by decide +kernel
theorem dX5_playTold_33 : decode cX5_playTold 33 = .ok (.if_icmp .ne 6, 3) := by decide +kernel
theorem dX5_playTold_36 : decode cX5_playTold 36 = .ok (.iinc 2 1, 3) := by decide +kernel
theorem dX5_playTold_39 : decode cX5_playTold 39 = .ok (.iinc 3 1, 3) := by decide +kernel
theorem dX5_playTold_42 : decode cX5_playTold 42 = .ok (.goto (-38), 3) := by decide +kernel
theorem dX5_playTold_45 : decode cX5_playTold 45 = .ok (.iload_n 2, 1) := by decide +kernel
theorem dX5_playTold_46 : decode cX5_playTold 46 = .ok (.ireturn, 1) := by decide +kernel
theorem dX5_robin_0 : decode cX5_robin 0 = .ok (.iload_n 1, 1) := by decide +kernel
theorem dX5_robin_1 : decode cX5_robin 1 = .ok (.iconst 0, 1) := by decide +kernel
theorem dX5_robin_2 : decode cX5_robin 2 = .ok (.bipush 8, 2) := by decide +kernel
theorem dX5_robin_4 : decode cX5_robin 4 = .ok (.invokestatic 82, 3) := by decide +kernel
theorem dX5_robin_7 : decode cX5_robin 7 = .ok (.ifCond .eq 20, 3) := by decide +kernel
theorem dX5_robin_10 : decode cX5_robin 10 = .ok (.iload_n 1, 1) := by decide +kernel
theorem dX5_robin_11 : decode cX5_robin 11 = .ok (.bipush 6, 2) := by decide +kernel
theorem dX5_robin_13 : decode cX5_robin 13 = .ok (.if_icmp .ge 17, 3) := by decide +kernel
theorem dX5_robin_16 : decode cX5_robin 16 = .ok (.aload_n 0, 1) := by decide +kernel
theorem dX5_robin_17 : decode cX5_robin 17 = .ok (.getfield 42, 3) := by decide +kernel
theorem dX5_robin_20 : decode cX5_robin 20 = .ok (.iload_n 1, 1) := by decide +kernel
theorem dX5_robin_21 : decode cX5_robin 21 = .ok (.invokevirtual 90, 3) := by decide +kernel
theorem dX5_robin_24 : decode cX5_robin 24 = .ok (.ifCond .ne 6, 3) := by decide +kernel
theorem dX5_robin_27 : decode cX5_robin 27 = .ok (.bipush (-2), 2) := by decide +kernel
theorem dX5_robin_29 : decode cX5_robin 29 = .ok (.ireturn, 1) := by decide +kernel
theorem dX5_robin_30 : decode cX5_robin 30 = .ok (.iload_n 1, 1) := by decide +kernel
theorem dX5_robin_31 : decode cX5_robin 31 = .ok (.bipush 7, 2) := by decide +kernel
theorem dX5_robin_33 : decode cX5_robin 33 = .ok (.if_icmp .ne 8, 3) := by decide +kernel
theorem dX5_robin_36 : decode cX5_robin 36 = .ok (.aload_n 0, 1) := by decide +kernel
theorem dX5_robin_37 : decode cX5_robin 37 = .ok (.invokevirtual 182, 3) := by decide +kernel
theorem dX5_robin_40 : decode cX5_robin 40 = .ok (.ireturn, 1) := by decide +kernel
theorem dX5_robin_41 : decode cX5_robin 41 = .ok (.iload_n 1, 1) := by decide +kernel
theorem dX5_robin_42 : decode cX5_robin 42 = .ok (.bipush 8, 2) := by decide +kernel
theorem dX5_robin_44 : decode cX5_robin 44 = .ok (.if_icmp .ne 8, 3) := by decide +kernel
theorem dX5_robin_47 : decode cX5_robin 47 = .ok (.aload_n 0, 1) := by decide +kernel
theorem dX5_robin_48 : decode cX5_robin 48 = .ok (.invokevirtual 185, 3) := by decide +kernel
theorem dX5_robin_51 : decode cX5_robin 51 = .ok (.ireturn, 1) := by decide +kernel
theorem dX5_robin_52 : decode cX5_robin 52 = .ok (.aload_n 0, 1) := by decide +kernel
theorem dX5_robin_53 : decode cX5_robin 53 = .ok (.iconst (-1), 1) := by decide +kernel
theorem dX5_robin_54 : decode cX5_robin 54 = .ok (.invokevirtual 188, 3) := by decide +kernel
theorem dX5_robin_57 : decode cX5_robin 57 = .ok (.astore_n 2, 1) := by decide +kernel
theorem dX5_robin_58 : decode cX5_robin 58 = .ok (.iload_n 1, 1) := by decide +kernel
theorem dX5_robin_59 : decode cX5_robin 59 = .ok (.bipush 6, 2) := by decide +kernel
theorem dX5_robin_61 : decode cX5_robin 61 = .ok (.if_icmp .ne 10, 3) := by decide +kernel
theorem dX5_robin_64 : decode cX5_robin 64 = .ok (.aload_n 2, 1) := by decide +kernel
theorem dX5_robin_65 : decode cX5_robin 65 = .ok (.getfield 192, 3) := by decide +kernel
theorem dX5_robin_68 : decode cX5_robin 68 = .ok (.goto 9, 3) := by decide +kernel
theorem dX5_robin_71 : decode cX5_robin 71 = .ok (.aload_n 2, 1) := by decide +kernel
theorem dX5_robin_72 : decode cX5_robin 72 = .ok (.getfield 110, 3) := by decide +kernel
theorem dX5_robin_75 : decode cX5_robin 75 = .ok (.iload_n 1, 1) := by decide +kernel
theorem dX5_robin_76 : decode cX5_robin 76 = .ok (.iaload, 1) := by decide +kernel
theorem dX5_robin_77 : decode cX5_robin 77 = .ok (.ireturn, 1) := by decide +kernel
theorem dX5_robinWithout_0 : decode cX5_robinWithout 0 = .ok (.aload_n 0, 1) := by decide +kernel
theorem dX5_robinWithout_1 : decode cX5_robinWithout 1 = .ok (.invokevirtual 133, 3) := by decide +kernel
theorem dX5_robinWithout_4 : decode cX5_robinWithout 4 = .ok (.astore_n 2, 1) := by decide +kernel
theorem dX5_robinWithout_5 : decode cX5_robinWithout 5 = .ok (.iconst 0, 1) := by decide +kernel
theorem dX5_robinWithout_6 : decode cX5_robinWithout 6 = .ok (.istore_n 3, 1) := by decide +kernel
theorem dX5_robinWithout_7 : decode cX5_robinWithout 7 = .ok (.iload_n 3, 1) := by decide +kernel
theorem dX5_robinWithout_8 : decode cX5_robinWithout 8 = .ok (.aload_n 0, 1) := by decide +kernel
theorem dX5_robinWithout_9 : decode cX5_robinWithout 9 = .ok (.getfield 42, 3) := by decide +kernel
theorem dX5_robinWithout_12 : decode cX5_robinWithout 12 = .ok (.getfield 195, 3) := by decide +kernel
theorem dX5_robinWithout_15 : decode cX5_robinWithout 15 = .ok (.if_icmp .ge 51, 3) := by decide +kernel
theorem dX5_robinWithout_18 : decode cX5_robinWithout 18 = .ok (.iload_n 3, 1) := by decide +kernel
theorem dX5_robinWithout_19 : decode cX5_robinWithout 19 = .ok (.iconst 1, 1) := by decide +kernel
theorem dX5_robinWithout_20 : decode cX5_robinWithout 20 = .ok (.iadd, 1) := by decide +kernel
theorem dX5_robinWithout_21 : decode cX5_robinWithout 21 = .ok (.istore 4, 2) := by decide +kernel
theorem dX5_robinWithout_23 : decode cX5_robinWithout 23 = .ok (.iload 4, 2) := by decide +kernel
theorem dX5_robinWithout_25 : decode cX5_robinWithout 25 = .ok (.aload_n 0, 1) := by decide +kernel
theorem dX5_robinWithout_26 : decode cX5_robinWithout 26 = .ok (.getfield 42, 3) := by decide +kernel
theorem dX5_robinWithout_29 : decode cX5_robinWithout 29 = .ok (.getfield 195, 3) := by decide +kernel
theorem dX5_robinWithout_32 : decode cX5_robinWithout 32 = .ok (.if_icmp .ge 28, 3) := by decide +kernel
theorem dX5_robinWithout_35 : decode cX5_robinWithout 35 = .ok (.bipush 10, 2) := by decide +kernel
theorem dX5_robinWithout_37 : decode cX5_robinWithout 37 = .ok (.iload_n 3, 1) := by decide +kernel
theorem dX5_robinWithout_38 : decode cX5_robinWithout 38 = .ok (.imul, 1) := by decide +kernel
theorem dX5_robinWithout_39 : decode cX5_robinWithout 39 = .ok (.iload 4, 2) := by decide +kernel
theorem dX5_robinWithout_41 : decode cX5_robinWithout 41 = .ok (.iadd, 1) := by decide +kernel
theorem dX5_robinWithout_42 : decode cX5_robinWithout 42 = .ok (.iload_n 1, 1) := by decide +kernel
theorem dX5_robinWithout_43 : decode cX5_robinWithout 43 = .ok (.if_icmp .eq 11, 3) := by decide +kernel
theorem dX5_robinWithout_46 : decode cX5_robinWithout 46 = .ok (.aload_n 2, 1) := by decide +kernel
theorem dX5_robinWithout_47 : decode cX5_robinWithout 47 = .ok (.iload_n 3, 1) := by decide +kernel
theorem dX5_robinWithout_48 : decode cX5_robinWithout 48 = .ok (.iload 4, 2) := by decide +kernel
theorem dX5_robinWithout_50 : decode cX5_robinWithout 50 = .ok (.invokevirtual 137, 3) := by decide +kernel
theorem dX5_robinWithout_53 : decode cX5_robinWithout 53 = .ok (.pop, 1) := by decide +kernel
theorem dX5_robinWithout_54 : decode cX5_robinWithout 54 = .ok (.iinc 4 1, 3) := by decide +kernel
theorem dX5_robinWithout_57 : decode cX5_robinWithout 57 = .ok (.goto (-34), 3) := by decide +kernel
theorem dX5_robinWithout_60 : decode cX5_robinWithout 60 = .ok (.iinc 3 1, 3) := by decide +kernel
theorem dX5_robinWithout_63 : decode cX5_robinWithout 63 = .ok (.goto (-56), 3) := by decide +kernel
theorem dX5_robinWithout_66 : decode cX5_robinWithout 66 = .ok (.aload_n 2, 1) := by decide +kernel
theorem dX5_robinWithout_67 : decode cX5_robinWithout 67 = .ok (.areturn, 1) := by decide +kernel
theorem dX5_keptApart_0 : decode cX5_keptApart 0 = .ok (.aload_n 0, 1) := by decide +kernel
theorem dX5_keptApart_1 : decode cX5_keptApart 1 = .ok (.iconst (-1), 1) := by decide +kernel
theorem dX5_keptApart_2 : decode cX5_keptApart 2 = .ok (.invokevirtual 188, 3) := by decide +kernel
theorem dX5_keptApart_5 : decode cX5_keptApart 5 = .ok (.invokevirtual 171, 3) := by decide +kernel
theorem dX5_keptApart_8 : decode cX5_keptApart 8 = .ok (.istore_n 1, 1) := by decide +kernel
theorem dX5_keptApart_9 : decode cX5_keptApart 9 = .ok (.iconst (-1), 1) := by decide +kernel
theorem dX5_keptApart_10 : decode cX5_keptApart 10 = .ok (.istore_n 2, 1) := by decide +kernel
theorem dX5_keptApart_11 : decode cX5_keptApart 11 = .ok (.iconst 0, 1) := by decide +kernel
theorem dX5_keptApart_12 : decode cX5_keptApart 12 = .ok (.istore_n 3, 1) := by decide +kernel
theorem dX5_keptApart_13 : decode cX5_keptApart 13 = .ok (.iload_n 3, 1) := by decide +kernel
theorem dX5_keptApart_14 : decode cX5_keptApart 14 = .ok (.aload_n 0, 1) := by decide +kernel
theorem dX5_keptApart_15 : decode cX5_keptApart 15 = .ok (.getfield 42, 3) := by decide +kernel
theorem dX5_keptApart_18 : decode cX5_keptApart 18 = .ok (.getfield 195, 3) := by decide +kernel
theorem dX5_keptApart_21 : decode cX5_keptApart 21 = .ok (.if_icmp .ge 65, 3) := by decide +kernel
theorem dX5_keptApart_24 : decode cX5_keptApart 24 = .ok (.iload_n 3, 1) := by decide +kernel
theorem dX5_keptApart_25 : decode cX5_keptApart 25 = .ok (.iconst 1, 1) := by decide +kernel
theorem dX5_keptApart_26 : decode cX5_keptApart 26 = .ok (.iadd, 1) := by decide +kernel
theorem dX5_keptApart_27 : decode cX5_keptApart 27 = .ok (.istore 4, 2) := by decide +kernel
theorem dX5_keptApart_29 : decode cX5_keptApart 29 = .ok (.iload 4, 2) := by decide +kernel
theorem dX5_keptApart_31 : decode cX5_keptApart 31 = .ok (.aload_n 0, 1) := by decide +kernel
theorem dX5_keptApart_32 : decode cX5_keptApart 32 = .ok (.getfield 42, 3) := by decide +kernel
theorem dX5_keptApart_35 : decode cX5_keptApart 35 = .ok (.getfield 195, 3) := by decide +kernel
theorem dX5_keptApart_38 : decode cX5_keptApart 38 = .ok (.if_icmp .ge 42, 3) := by decide +kernel
theorem dX5_keptApart_41 : decode cX5_keptApart 41 = .ok (.aload_n 0, 1) := by decide +kernel
theorem dX5_keptApart_42 : decode cX5_keptApart 42 = .ok (.bipush 10, 2) := by decide +kernel
theorem dX5_keptApart_44 : decode cX5_keptApart 44 = .ok (.iload_n 3, 1) := by decide +kernel
theorem dX5_keptApart_45 : decode cX5_keptApart 45 = .ok (.imul, 1) := by decide +kernel
theorem dX5_keptApart_46 : decode cX5_keptApart 46 = .ok (.iload 4, 2) := by decide +kernel
theorem dX5_keptApart_48 : decode cX5_keptApart 48 = .ok (.iadd, 1) := by decide +kernel
theorem dX5_keptApart_49 : decode cX5_keptApart 49 = .ok (.invokevirtual 188, 3) := by decide +kernel
theorem dX5_keptApart_52 : decode cX5_keptApart 52 = .ok (.invokevirtual 171, 3) := by decide +kernel
theorem dX5_keptApart_55 : decode cX5_keptApart 55 = .ok (.istore 5, 2) := by decide +kernel
theorem dX5_keptApart_57 : decode cX5_keptApart 57 = .ok (.iload 5, 2) := by decide +kernel
theorem dX5_keptApart_59 : decode cX5_keptApart 59 = .ok (.iload_n 1, 1) := by decide +kernel
theorem dX5_keptApart_60 : decode cX5_keptApart 60 = .ok (.if_icmp .ge 14, 3) := by decide +kernel
theorem dX5_keptApart_63 : decode cX5_keptApart 63 = .ok (.iload 5, 2) := by decide +kernel
theorem dX5_keptApart_65 : decode cX5_keptApart 65 = .ok (.istore_n 1, 1) := by decide +kernel
theorem dX5_keptApart_66 : decode cX5_keptApart 66 = .ok (.bipush 10, 2) := by decide +kernel
theorem dX5_keptApart_68 : decode cX5_keptApart 68 = .ok (.iload_n 3, 1) := by decide +kernel
theorem dX5_keptApart_69 : decode cX5_keptApart 69 = .ok (.imul, 1) := by decide +kernel
theorem dX5_keptApart_70 : decode cX5_keptApart 70 = .ok (.iload 4, 2) := by decide +kernel
theorem dX5_keptApart_72 : decode cX5_keptApart 72 = .ok (.iadd, 1) := by decide +kernel
theorem dX5_keptApart_73 : decode cX5_keptApart 73 = .ok (.istore_n 2, 1) := by decide +kernel
theorem dX5_keptApart_74 : decode cX5_keptApart 74 = .ok (.iinc 4 1, 3) := by decide +kernel
theorem dX5_keptApart_77 : decode cX5_keptApart 77 = .ok (.goto (-48), 3) := by decide +kernel
theorem dX5_keptApart_80 : decode cX5_keptApart 80 = .ok (.iinc 3 1, 3) := by decide +kernel
theorem dX5_keptApart_83 : decode cX5_keptApart 83 = .ok (.goto (-70), 3) := by decide +kernel
theorem dX5_keptApart_86 : decode cX5_keptApart 86 = .ok (.iload_n 2, 1) := by decide +kernel
theorem dX5_keptApart_87 : decode cX5_keptApart 87 = .ok (.ireturn, 1) := by decide +kernel
theorem dX5_rings_0 : decode cX5_rings 0 = .ok (.iconst 0, 1) := by decide +kernel
theorem dX5_rings_1 : decode cX5_rings 1 = .ok (.istore_n 1, 1) := by decide +kernel
theorem dX5_rings_2 : decode cX5_rings 2 = .ok (.iconst 0, 1) := by decide +kernel
theorem dX5_rings_3 : decode cX5_rings 3 = .ok (.istore_n 2, 1) := by decide +kernel
theorem dX5_rings_4 : decode cX5_rings 4 = .ok (.iload_n 2, 1) := by decide +kernel
theorem dX5_rings_5 : decode cX5_rings 5 = .ok (.aload_n 0, 1) := by decide +kernel
theorem dX5_rings_6 : decode cX5_rings 6 = .ok (.getfield 42, 3) := by decide +kernel
theorem dX5_rings_9 : decode cX5_rings 9 = .ok (.getfield 195, 3) := by decide +kernel
theorem dX5_rings_12 : decode cX5_rings 12 = .ok (.if_icmp .ge 78, 3) := by decide +kernel
theorem dX5_rings_15 : decode cX5_rings 15 = .ok (.iload_n 2, 1) := by decide +kernel
theorem dX5_rings_16 : decode cX5_rings 16 = .ok (.iconst 1, 1) := by decide +kernel
theorem dX5_rings_17 : decode cX5_rings 17 = .ok (.iadd, 1) := by decide +kernel
theorem dX5_rings_18 : decode cX5_rings 18 = .ok (.istore_n 3, 1) := by decide +kernel
theorem dX5_rings_19 : decode cX5_rings 19 = .ok (.iload_n 3, 1) := by decide +kernel
theorem dX5_rings_20 : decode cX5_rings 20 = .ok (.aload_n 0, 1) := by decide +kernel
theorem dX5_rings_21 : decode cX5_rings 21 = .ok (.getfield 42, 3) := by decide +kernel
theorem dX5_rings_24 : decode cX5_rings 24 = .ok (.getfield 195, 3) := by decide +kernel
theorem dX5_rings_27 : decode cX5_rings 27 = .ok (.if_icmp .ge 57, 3) := by decide +kernel
theorem dX5_rings_30 : decode cX5_rings 30 = .ok (.iload_n 3, 1) := by decide +kernel
theorem dX5_rings_31 : decode cX5_rings 31 = .ok (.iconst 1, 1) := by decide +kernel
theorem dX5_rings_32 : decode cX5_rings 32 = .ok (.iadd, 1) := by decide +kernel
theorem dX5_rings_33 : decode cX5_rings 33 = .ok (.istore 4, 2) := by decide +kernel
theorem dX5_rings_35 : decode cX5_rings 35 = .ok (.iload 4, 2) := by decide +kernel
theorem dX5_rings_37 : decode cX5_rings 37 = .ok (.aload_n 0, 1) := by decide +kernel
theorem dX5_rings_38 : decode cX5_rings 38 = .ok (.getfield 42, 3) := by decide +kernel
theorem dX5_rings_41 : decode cX5_rings 41 = .ok (.getfield 195, 3) := by decide +kernel
theorem dX5_rings_44 : decode cX5_rings 44 = .ok (.if_icmp .ge 34, 3) := by decide +kernel
theorem dX5_rings_47 : decode cX5_rings 47 = .ok (.aload_n 0, 1) := by decide +kernel
theorem dX5_rings_48 : decode cX5_rings 48 = .ok (.iload_n 2, 1) := by decide +kernel
theorem dX5_rings_49 : decode cX5_rings 49 = .ok (.iload_n 3, 1) := by decide +kernel
theorem dX5_rings_50 : decode cX5_rings 50 = .ok (.iload 4, 2) := by decide +kernel
theorem dX5_rings_52 : decode cX5_rings 52 = .ok (.invokevirtual 196, 3) := by decide +kernel
theorem dX5_rings_55 : decode cX5_rings 55 = .ok (.ifCond .ne 14, 3) := by decide +kernel
theorem dX5_rings_58 : decode cX5_rings 58 = .ok (.aload_n 0, 1) := by decide +kernel
theorem dX5_rings_59 : decode cX5_rings 59 = .ok (.iload_n 2, 1) := by decide +kernel
theorem dX5_rings_60 : decode cX5_rings 60 = .ok (.iload 4, 2) := by decide +kernel
theorem dX5_rings_62 : decode cX5_rings 62 = .ok (.iload_n 3, 1) := by decide +kernel
theorem dX5_rings_63 : decode cX5_rings 63 = .ok (.invokevirtual 196, 3) := by decide +kernel
theorem dX5_rings_66 : decode cX5_rings 66 = .ok (.ifCond .eq 6, 3) := by decide +kernel
theorem dX5_rings_69 : decode cX5_rings 69 = .ok (.iinc 1 1, 3) := by decide +kernel
theorem dX5_rings_72 : decode cX5_rings 72 = .ok (.iinc 4 1, 3) := by decide +kernel
theorem dX5_rings_75 : decode cX5_rings 75 = .ok (.goto (-40), 3) := by decide +kernel
theorem dX5_rings_78 : decode cX5_rings 78 = .ok (.iinc 3 1, 3) := by decide +kernel
theorem dX5_rings_81 : decode cX5_rings 81 = .ok (.goto (-62), 3) := by decide +kernel
theorem dX5_rings_84 : decode cX5_rings 84 = .ok (.iinc 2 1, 3) := by decide +kernel
theorem dX5_rings_87 : decode cX5_rings 87 = .ok (.goto (-83), 3) := by decide +kernel
theorem dX5_rings_90 : decode cX5_rings 90 = .ok (.iload_n 1, 1) := by decide +kernel
theorem dX5_rings_91 : decode cX5_rings 91 = .ok (.ireturn, 1) := by decide +kernel
theorem dX5_isRing_0 : decode cX5_isRing 0 = .ok (.aload_n 0, 1) := by decide +kernel
theorem dX5_isRing_1 : decode cX5_isRing 1 = .ok (.getfield 42, 3) := by decide +kernel
theorem dX5_isRing_4 : decode cX5_isRing 4 = .ok (.iload_n 1, 1) := by decide +kernel
theorem dX5_isRing_5 : decode cX5_isRing 5 = .ok (.iload_n 2, 1) := by decide +kernel
theorem dX5_isRing_6 : decode cX5_isRing 6 = .ok (.invokevirtual 127, 3) := by decide +kernel
theorem dX5_isRing_9 : decode cX5_isRing 9 = .ok (.iload_n 1, 1) := by decide +kernel
theorem dX5_isRing_10 : decode cX5_isRing 10 = .ok (.if_icmp .ne 33, 3) := by decide +kernel
theorem dX5_isRing_13 : decode cX5_isRing 13 = .ok (.aload_n 0, 1) := by decide +kernel
theorem dX5_isRing_14 : decode cX5_isRing 14 = .ok (.getfield 42, 3) := by decide +kernel
theorem dX5_isRing_17 : decode cX5_isRing 17 = .ok (.iload_n 2, 1) := by decide +kernel
theorem dX5_isRing_18 : decode cX5_isRing 18 = .ok (.iload_n 3, 1) := by decide +kernel
theorem dX5_isRing_19 : decode cX5_isRing 19 = .ok (.invokevirtual 127, 3) := by decide +kernel
theorem dX5_isRing_22 : decode cX5_isRing 22 = .ok (.iload_n 2, 1) := by decide +kernel
theorem dX5_isRing_23 : decode cX5_isRing 23 = .ok (.if_icmp .ne 20, 3) := by decide +kernel
theorem dX5_isRing_26 : decode cX5_isRing 26 = .ok (.aload_n 0, 1) := by decide +kernel
theorem dX5_isRing_27 : decode cX5_isRing 27 = .ok (.getfield 42, 3) := by decide +kernel
theorem dX5_isRing_30 : decode cX5_isRing 30 = .ok (.iload_n 3, 1) := by decide +kernel
theorem dX5_isRing_31 : decode cX5_isRing 31 = .ok (.iload_n 1, 1) := by decide +kernel
theorem dX5_isRing_32 : decode cX5_isRing 32 = .ok (.invokevirtual 127, 3) := by decide +kernel
theorem dX5_isRing_35 : decode cX5_isRing 35 = .ok (.iload_n 3, 1) := by decide +kernel
theorem dX5_isRing_36 : decode cX5_isRing 36 = .ok (.if_icmp .ne 7, 3) := by decide +kernel
theorem dX5_isRing_39 : decode cX5_isRing 39 = .ok (.iconst 1, 1) := by decide +kernel
theorem dX5_isRing_40 : decode cX5_isRing 40 = .ok (.goto 4, 3) := by decide +kernel
theorem dX5_isRing_43 : decode cX5_isRing 43 = .ok (.iconst 0, 1) := by decide +kernel
theorem dX5_isRing_44 : decode cX5_isRing 44 = .ok (.ireturn, 1) := by decide +kernel
theorem dX5_best_0 : decode cX5_best 0 = .ok (.aload_n 0, 1) := by decide +kernel
theorem dX5_best_1 : decode cX5_best 1 = .ok (.getfield 42, 3) := by decide +kernel
theorem dX5_best_4 : decode cX5_best 4 = .ok (.iload_n 1, 1) := by decide +kernel
theorem dX5_best_5 : decode cX5_best 5 = .ok (.invokevirtual 90, 3) := by decide +kernel
theorem dX5_best_8 : decode cX5_best 8 = .ok (.ifCond .eq 12, 3) := by decide +kernel
theorem dX5_best_11 : decode cX5_best 11 = .ok (.iload_n 2, 1) := by decide +kernel
theorem dX5_best_12 : decode cX5_best 12 = .ok (.iconst 0, 1) := by decide +kernel
theorem dX5_best_13 : decode cX5_best 13 = .ok (.iconst 1, 1) := by decide +kernel
theorem dX5_best_14 : decode cX5_best 14 = .ok (.invokestatic 82, 3) := by decide +kernel
theorem dX5_best_17 : decode cX5_best 17 = .ok (.ifCond .ne 6, 3) := by decide +kernel
theorem dX5_best_20 : decode cX5_best 20 = .ok (.bipush (-2), 2) := by decide +kernel
theorem dX5_best_22 : decode cX5_best 22 = .ok (.ireturn, 1) := by decide +kernel
theorem dX5_best_23 : decode cX5_best 23 = .ok (.iconst (-1), 1) := by decide +kernel
theorem dX5_best_24 : decode cX5_best 24 = .ok (.istore_n 3, 1) := by decide +kernel
theorem dX5_best_25 : decode cX5_best 25 = .ok (.iconst (-1), 1) := by decide +kernel
theorem dX5_best_26 : decode cX5_best 26 = .ok (.istore 4, 2) := by decide +kernel
theorem dX5_best_28 : decode cX5_best 28 = .ok (.iconst 0, 1) := by decide +kernel
theorem dX5_best_29 : decode cX5_best 29 = .ok (.istore 5, 2) := by decide +kernel
theorem dX5_best_31 : decode cX5_best 31 = .ok (.iload 5, 2) := by decide +kernel
theorem dX5_best_33 : decode cX5_best 33 = .ok (.aload_n 0, 1) := by decide +kernel
theorem dX5_best_34 : decode cX5_best 34 = .ok (.getfield 42, 3) := by decide +kernel
theorem dX5_best_37 : decode cX5_best 37 = .ok (.getfield 195, 3) := by decide +kernel
theorem dX5_best_40 : decode cX5_best 40 = .ok (.if_icmp .ge 41, 3) := by decide +kernel
theorem dX5_best_43 : decode cX5_best 43 = .ok (.iload 5, 2) := by decide +kernel
theorem dX5_best_45 : decode cX5_best 45 = .ok (.iload_n 1, 1) := by decide +kernel
theorem dX5_best_46 : decode cX5_best 46 = .ok (.if_icmp .ne 7, 3) := by decide +kernel
theorem dX5_best_49 : decode cX5_best 49 = .ok (.iconst (-1), 1) := by decide +kernel
theorem dX5_best_50 : decode cX5_best 50 = .ok (.goto 10, 3) := by decide +kernel
theorem dX5_best_53 : decode cX5_best 53 = .ok (.aload_n 0, 1) := by decide +kernel
theorem dX5_best_54 : decode cX5_best 54 = .ok (.iload_n 1, 1) := by decide +kernel
theorem dX5_best_55 : decode cX5_best 55 = .ok (.iload 5, 2) := by decide +kernel
theorem dX5_best_57 : decode cX5_best 57 = .ok (.invokevirtual 130, 3) := by decide +kernel
theorem dX5_best_60 : decode cX5_best 60 = .ok (.istore 6, 2) := by decide +kernel
theorem dX5_best_62 : decode cX5_best 62 = .ok (.iload 6, 2) := by decide +kernel
theorem dX5_best_64 : decode cX5_best 64 = .ok (.iload_n 3, 1) := by decide +kernel
theorem dX5_best_65 : decode cX5_best 65 = .ok (.if_icmp .le 10, 3) := by decide +kernel
theorem dX5_best_68 : decode cX5_best 68 = .ok (.iload 6, 2) := by decide +kernel
theorem dX5_best_70 : decode cX5_best 70 = .ok (.istore_n 3, 1) := by decide +kernel
theorem dX5_best_71 : decode cX5_best 71 = .ok (.iload 5, 2) := by decide +kernel
theorem dX5_best_73 : decode cX5_best 73 = .ok (.istore 4, 2) := by decide +kernel
theorem dX5_best_75 : decode cX5_best 75 = .ok (.iinc 5 1, 3) := by decide +kernel
theorem dX5_best_78 : decode cX5_best 78 = .ok (.goto (-47), 3) := by decide +kernel
theorem dX5_best_81 : decode cX5_best 81 = .ok (.iload_n 2, 1) := by decide +kernel
theorem dX5_best_82 : decode cX5_best 82 = .ok (.ifCond .ne 8, 3) := by decide +kernel
theorem dX5_best_85 : decode cX5_best 85 = .ok (.iload 4, 2) := by decide +kernel
theorem dX5_best_87 : decode cX5_best 87 = .ok (.goto 4, 3) := by decide +kernel
theorem dX5_best_90 : decode cX5_best 90 = .ok (.iload_n 3, 1) := by decide +kernel
theorem dX5_best_91 : decode cX5_best 91 = .ok (.ireturn, 1) := by decide +kernel
theorem dX5_order_0 : decode cX5_order 0 = .ok (.aload_n 0, 1) := by decide +kernel
theorem dX5_order_1 : decode cX5_order 1 = .ok (.getfield 42, 3) := by decide +kernel
theorem dX5_order_4 : decode cX5_order 4 = .ok (.iload_n 1, 1) := by decide +kernel
theorem dX5_order_5 : decode cX5_order 5 = .ok (.invokevirtual 90, 3) := by decide +kernel
theorem dX5_order_8 : decode cX5_order 8 = .ok (.ifCond .eq 12, 3) := by decide +kernel
theorem dX5_order_11 : decode cX5_order 11 = .ok (.iload_n 2, 1) := by decide +kernel
theorem dX5_order_12 : decode cX5_order 12 = .ok (.iconst 0, 1) := by decide +kernel
theorem dX5_order_13 : decode cX5_order 13 = .ok (.iconst 1, 1) := by decide +kernel
theorem dX5_order_14 : decode cX5_order 14 = .ok (.invokestatic 82, 3) := by decide +kernel
theorem dX5_order_17 : decode cX5_order 17 = .ok (.ifCond .ne 6, 3) := by decide +kernel
theorem dX5_order_20 : decode cX5_order 20 = .ok (.bipush (-2), 2) := by decide +kernel
theorem dX5_order_22 : decode cX5_order 22 = .ok (.ireturn, 1) := by decide +kernel
theorem dX5_order_23 : decode cX5_order 23 = .ok (.aload_n 0, 1) := by decide +kernel
theorem dX5_order_24 : decode cX5_order 24 = .ok (.getfield 42, 3) := by decide +kernel
theorem dX5_order_27 : decode cX5_order 27 = .ok (.aload_n 0, 1) := by decide +kernel
theorem dX5_order_28 : decode cX5_order 28 = .ok (.getfield 52, 3) := by decide +kernel
theorem dX5_order_31 : decode cX5_order 31 = .ok (.iload_n 1, 1) := by decide +kernel
theorem dX5_order_32 : decode cX5_order 32 = .ok (.iconst 0, 1) := by decide +kernel
theorem dX5_order_33 : decode cX5_order 33 = .ok (.iconst 1, 1) := by decide +kernel
theorem dX5_order_34 : decode cX5_order 34 = .ok (.iload_n 1, 1) := by decide +kernel
theorem dX5_order_35 : decode cX5_order 35 = .ok (.ishl, 1) := by decide +kernel
theorem dX5_order_36 : decode cX5_order 36 = .ok (.iconst 0, 1) := by decide +kernel
theorem dX5_order_37 : decode cX5_order 37 = .ok (.invokestatic 199, 3) := by decide +kernel
theorem dX5_order_40 : decode cX5_order 40 = .ok (.istore_n 3, 1) := by decide +kernel
theorem dX5_order_41 : decode cX5_order 41 = .ok (.iload_n 2, 1) := by decide +kernel
theorem dX5_order_42 : decode cX5_order 42 = .ok (.ifCond .ne 13, 3) := by decide +kernel
theorem dX5_order_45 : decode cX5_order 45 = .ok (.ldc 203, 2) := by decide +kernel
theorem dX5_order_47 : decode cX5_order 47 = .ok (.iload_n 3, 1) := by decide +kernel
theorem dX5_order_48 : decode cX5_order 48 = .ok (.ldc 204, 2) := by decide +kernel
theorem dX5_order_50 : decode cX5_order 50 = .ok (.irem, 1) := by decide +kernel
theorem dX5_order_51 : decode cX5_order 51 = .ok (.isub, 1) := by decide +kernel
theorem dX5_order_52 : decode cX5_order 52 = .ok (.goto 7, 3) := by decide +kernel
theorem dX5_order_55 : decode cX5_order 55 = .ok (.iload_n 3, 1) := by decide +kernel
theorem dX5_order_56 : decode cX5_order 56 = .ok (.ldc 204, 2) := by decide +kernel
theorem dX5_order_58 : decode cX5_order 58 = .ok (.idiv, 1) := by decide +kernel
theorem dX5_order_59 : decode cX5_order 59 = .ok (.ireturn, 1) := by decide +kernel
theorem dX5_bestOrder_0 : decode cX5_bestOrder 0 = .ok (.iload_n 3, 1) := by decide +kernel
theorem dX5_bestOrder_1 : decode cX5_bestOrder 1 = .ok (.aload_n 0, 1) := by decide +kernel
theorem dX5_bestOrder_2 : decode cX5_bestOrder 2 = .ok (.getfield 195, 3) := by decide +kernel
theorem dX5_bestOrder_5 : decode cX5_bestOrder 5 = .ok (.iconst 1, 1) := by decide +kernel
theorem dX5_bestOrder_6 : decode cX5_bestOrder 6 = .ok (.isub, 1) := by decide +kernel
theorem dX5_bestOrder_7 : decode cX5_bestOrder 7 = .ok (.if_icmp .lt 20, 3) := by decide +kernel
theorem dX5_bestOrder_10 : decode cX5_bestOrder 10 = .ok (.aload_n 0, 1) := by decide +kernel
theorem dX5_bestOrder_11 : decode cX5_bestOrder 11 = .ok (.iload_n 2, 1) := by decide +kernel
theorem dX5_bestOrder_12 : decode cX5_bestOrder 12 = .ok (.invokevirtual 113, 3) := by decide +kernel
theorem dX5_bestOrder_15 : decode cX5_bestOrder 15 = .ok (.ldc 204, 2) := by decide +kernel
theorem dX5_bestOrder_17 : decode cX5_bestOrder 17 = .ok (.imul, 1) := by decide +kernel
theorem dX5_bestOrder_18 : decode cX5_bestOrder 18 = .ok (.ldc 204, 2) := by decide +kernel
theorem dX5_bestOrder_20 : decode cX5_bestOrder 20 = .ok (.iadd, 1) := by decide +kernel
theorem dX5_bestOrder_21 : decode cX5_bestOrder 21 = .ok (.iconst 1, 1) := by decide +kernel
theorem dX5_bestOrder_22 : decode cX5_bestOrder 22 = .ok (.isub, 1) := by decide +kernel
theorem dX5_bestOrder_23 : decode cX5_bestOrder 23 = .ok (.iload 5, 2) := by decide +kernel
theorem dX5_bestOrder_25 : decode cX5_bestOrder 25 = .ok (.isub, 1) := by decide +kernel
theorem dX5_bestOrder_26 : decode cX5_bestOrder 26 = .ok (.ireturn, 1) := by decide +kernel
theorem dX5_bestOrder_27 : decode cX5_bestOrder 27 = .ok (.iconst 0, 1) := by decide +kernel
theorem dX5_bestOrder_28 : decode cX5_bestOrder 28 = .ok (.istore 6, 2) := by decide +kernel
theorem dX5_bestOrder_30 : decode cX5_bestOrder 30 = .ok (.iconst 0, 1) := by decide +kernel
theorem dX5_bestOrder_31 : decode cX5_bestOrder 31 = .ok (.istore 7, 2) := by decide +kernel
theorem dX5_bestOrder_33 : decode cX5_bestOrder 33 = .ok (.iload 7, 2) := by decide +kernel
theorem dX5_bestOrder_35 : decode cX5_bestOrder 35 = .ok (.aload_n 0, 1) := by decide +kernel
theorem dX5_bestOrder_36 : decode cX5_bestOrder 36 = .ok (.getfield 195, 3) := by decide +kernel
theorem dX5_bestOrder_39 : decode cX5_bestOrder 39 = .ok (.if_icmp .ge 83, 3) := by decide +kernel
theorem dX5_bestOrder_42 : decode cX5_bestOrder 42 = .ok (.iload 4, 2) := by decide +kernel
theorem dX5_bestOrder_44 : decode cX5_bestOrder 44 = .ok (.iload 7, 2) := by decide +kernel
theorem dX5_bestOrder_46 : decode cX5_bestOrder 46 = .ok (.ishr, 1) := by decide +kernel
theorem dX5_bestOrder_47 : decode cX5_bestOrder 47 = .ok (.iconst 1, 1) := by decide +kernel
theorem dX5_bestOrder_48 : decode cX5_bestOrder 48 = .ok (.iand, 1) := by decide +kernel
theorem dX5_bestOrder_49 : decode cX5_bestOrder 49 = .ok (.ifCond .eq 7, 3) := by decide +kernel
theorem dX5_bestOrder_52 : decode cX5_bestOrder 52 = .ok (.aconst_null, 1) := by decide +kernel
theorem dX5_bestOrder_53 : decode cX5_bestOrder 53 = .ok (.goto 9, 3) := by decide +kernel
theorem dX5_bestOrder_56 : decode cX5_bestOrder 56 = .ok (.aload_n 0, 1) := by decide +kernel
theorem dX5_bestOrder_57 : decode cX5_bestOrder 57 = .ok (.aload_n 1, 1) := by decide +kernel
theorem dX5_bestOrder_58 : decode cX5_bestOrder 58 = .ok (.iload_n 3, 1) := by decide +kernel
theorem dX5_bestOrder_59 : decode cX5_bestOrder 59 = .ok (.invokestatic 205, 3) := by decide +kernel
theorem dX5_bestOrder_62 : decode cX5_bestOrder 62 = .ok (.astore 8, 2) := by decide +kernel
theorem dX5_bestOrder_64 : decode cX5_bestOrder 64 = .ok (.aload 8, 2) := by decide +kernel
theorem dX5_bestOrder_66 : decode cX5_bestOrder 66 = .ok (.ifnull 50, 3) := by decide +kernel
theorem dX5_bestOrder_69 : decode cX5_bestOrder 69 = .ok (.aload 8, 2) := by decide +kernel
theorem dX5_bestOrder_71 : decode cX5_bestOrder 71 = .ok (.iload_n 2, 1) := by decide +kernel
theorem dX5_bestOrder_72 : decode cX5_bestOrder 72 = .ok (.iload 7, 2) := by decide +kernel
theorem dX5_bestOrder_74 : decode cX5_bestOrder 74 = .ok (.invokevirtual 137, 3) := by decide +kernel
theorem dX5_bestOrder_77 : decode cX5_bestOrder 77 = .ok (.pop, 1) := by decide +kernel
theorem dX5_bestOrder_78 : decode cX5_bestOrder 78 = .ok (.aload 8, 2) := by decide +kernel
theorem dX5_bestOrder_80 : decode cX5_bestOrder 80 = .ok (.aload_n 1, 1) := by decide +kernel
theorem dX5_bestOrder_81 : decode cX5_bestOrder 81 = .ok (.iload_n 2, 1) := by decide +kernel
theorem dX5_bestOrder_82 : decode cX5_bestOrder 82 = .ok (.iload_n 3, 1) := by decide +kernel
theorem dX5_bestOrder_83 : decode cX5_bestOrder 83 = .ok (.iconst 1, 1) := by decide +kernel
theorem dX5_bestOrder_84 : decode cX5_bestOrder 84 = .ok (.iadd, 1) := by decide +kernel
theorem dX5_bestOrder_85 : decode cX5_bestOrder 85 = .ok (.iload 4, 2) := by decide +kernel
theorem dX5_bestOrder_87 : decode cX5_bestOrder 87 = .ok (.iconst 1, 1) := by decide +kernel
theorem dX5_bestOrder_88 : decode cX5_bestOrder 88 = .ok (.iload 7, 2) := by decide +kernel
theorem dX5_bestOrder_90 : decode cX5_bestOrder 90 = .ok (.ishl, 1) := by decide +kernel
theorem dX5_bestOrder_91 : decode cX5_bestOrder 91 = .ok (.ior, 1) := by decide +kernel
theorem dX5_bestOrder_92 : decode cX5_bestOrder 92 = .ok (.iload 5, 2) := by decide +kernel
theorem dX5_bestOrder_94 : decode cX5_bestOrder 94 = .ok (.bipush 10, 2) := by decide +kernel
theorem dX5_bestOrder_96 : decode cX5_bestOrder 96 = .ok (.imul, 1) := by decide +kernel
theorem dX5_bestOrder_97 : decode cX5_bestOrder 97 = .ok (.iload 7, 2) := by decide +kernel
theorem dX5_bestOrder_99 : decode cX5_bestOrder 99 = .ok (.iadd, 1) := by decide +kernel
theorem dX5_bestOrder_100 : decode cX5_bestOrder 100 = .ok (.iconst 1, 1) := by decide +kernel
theorem dX5_bestOrder_101 : decode cX5_bestOrder 101 = .ok (.iadd, 1) := by decide +kernel
theorem dX5_bestOrder_102 : decode cX5_bestOrder 102 = .ok (.invokestatic 199, 3) := by decide +kernel
theorem dX5_bestOrder_105 : decode cX5_bestOrder 105 = .ok (.istore 9, 2) := by decide +kernel
theorem dX5_bestOrder_107 : decode cX5_bestOrder 107 = .ok (.iload 6, 2) := by decide +kernel
theorem dX5_bestOrder_109 : decode cX5_bestOrder 109 = .ok (.iload 9, 2) := by decide +kernel
theorem dX5_bestOrder_111 : decode cX5_bestOrder 111 = .ok (.invokestatic 209, 3) := by decide +kernel
theorem dX5_bestOrder_114 : decode cX5_bestOrder 114 = .ok (.istore 6, 2) := by decide +kernel
theorem dX5_bestOrder_116 : decode cX5_bestOrder 116 = .ok (.iinc 7 1, 3) := by decide +kernel
theorem dX5_bestOrder_119 : decode cX5_bestOrder 119 = .ok (.goto (-86), 3) := by decide +kernel
theorem dX5_bestOrder_122 : decode cX5_bestOrder 122 = .ok (.iload 6, 2) := by decide +kernel
theorem dX5_bestOrder_124 : decode cX5_bestOrder 124 = .ok (.ireturn, 1) := by decide +kernel
theorem dX5_all_0 : decode cX5_all 0 = .ok (.iload_n 1, 1) := by decide +kernel
theorem dX5_all_1 : decode cX5_all 1 = .ok (.iconst 0, 1) := by decide +kernel
theorem dX5_all_2 : decode cX5_all 2 = .ok (.iconst 3, 1) := by decide +kernel
theorem dX5_all_3 : decode cX5_all 3 = .ok (.invokestatic 82, 3) := by decide +kernel
theorem dX5_all_6 : decode cX5_all 6 = .ok (.ifCond .ne 6, 3) := by decide +kernel
theorem dX5_all_9 : decode cX5_all 9 = .ok (.bipush (-2), 2) := by decide +kernel
theorem dX5_all_11 : decode cX5_all 11 = .ok (.ireturn, 1) := by decide +kernel
theorem dX5_all_12 : decode cX5_all 12 = .ok (.iload_n 1, 1) := by decide +kernel
theorem dX5_all_13 : decode cX5_all 13 = .ok (.iconst 3, 1) := by decide +kernel
theorem dX5_all_14 : decode cX5_all 14 = .ok (.if_icmp .ne 17, 3) := by decide +kernel
theorem dX5_all_17 : decode cX5_all 17 = .ok (.aload_n 0, 1) := by decide +kernel
theorem dX5_all_18 : decode cX5_all 18 = .ok (.getfield 42, 3) := by decide +kernel
theorem dX5_all_21 : decode cX5_all 21 = .ok (.getfield 195, 3) := by decide +kernel
theorem dX5_all_24 : decode cX5_all 24 = .ok (.iconst 4, 1) := by decide +kernel
theorem dX5_all_25 : decode cX5_all 25 = .ok (.if_icmp .le 6, 3) := by decide +kernel
theorem dX5_all_28 : decode cX5_all 28 = .ok (.bipush (-3), 2) := by decide +kernel
theorem dX5_all_30 : decode cX5_all 30 = .ok (.ireturn, 1) := by decide +kernel
theorem dX5_all_31 : decode cX5_all 31 = .ok (.aload_n 0, 1) := by decide +kernel
theorem dX5_all_32 : decode cX5_all 32 = .ok (.getfield 42, 3) := by decide +kernel
theorem dX5_all_35 : decode cX5_all 35 = .ok (.aload_n 0, 1) := by decide +kernel
theorem dX5_all_36 : decode cX5_all 36 = .ok (.getfield 52, 3) := by decide +kernel
theorem dX5_all_39 : decode cX5_all 39 = .ok (.iconst 0, 1) := by decide +kernel
theorem dX5_all_40 : decode cX5_all 40 = .ok (.iload_n 1, 1) := by decide +kernel
theorem dX5_all_41 : decode cX5_all 41 = .ok (.invokestatic 214, 3) := by decide +kernel
theorem dX5_all_44 : decode cX5_all 44 = .ok (.ireturn, 1) := by decide +kernel
theorem dX5_whoCouldHaveAll_0 : decode cX5_whoCouldHaveAll 0 = .ok (.aload_n 0, 1) := by decide +kernel
theorem dX5_whoCouldHaveAll_1 : decode cX5_whoCouldHaveAll 1 = .ok (.invokevirtual 218, 3) := by decide +kernel
theorem dX5_whoCouldHaveAll_4 : decode cX5_whoCouldHaveAll 4 = .ok (.istore 4, 2) := by decide +kernel
theorem dX5_whoCouldHaveAll_6 : decode cX5_whoCouldHaveAll 6 = .ok (.iload_n 2, 1) := by decide +kernel
theorem dX5_whoCouldHaveAll_7 : decode cX5_whoCouldHaveAll 7 = .ok (.iload_n 3, 1) := by decide +kernel
theorem dX5_whoCouldHaveAll_8 : decode cX5_whoCouldHaveAll 8 = .ok (.if_icmp .lt 6, 3) := by decide +kernel
theorem dX5_whoCouldHaveAll_11 : decode cX5_whoCouldHaveAll 11 = .ok (.iload 4, 2) := by decide +kernel
theorem dX5_whoCouldHaveAll_13 : decode cX5_whoCouldHaveAll 13 = .ok (.ireturn, 1) := by decide +kernel
theorem dX5_whoCouldHaveAll_14 : decode cX5_whoCouldHaveAll 14 = .ok (.iconst 0, 1) := by decide +kernel
theorem dX5_whoCouldHaveAll_15 : decode cX5_whoCouldHaveAll 15 = .ok (.istore 5, 2) := by decide +kernel
theorem dX5_whoCouldHaveAll_17 : decode cX5_whoCouldHaveAll 17 = .ok (.iload 5, 2) := by decide +kernel
theorem dX5_whoCouldHaveAll_19 : decode cX5_whoCouldHaveAll 19 = .ok (.aload_n 0, 1) := by decide +kernel
theorem dX5_whoCouldHaveAll_20 : decode cX5_whoCouldHaveAll 20 = .ok (.getfield 195, 3) := by decide +kernel
theorem dX5_whoCouldHaveAll_23 : decode cX5_whoCouldHaveAll 23 = .ok (.if_icmp .ge 68, 3) := by decide +kernel
theorem dX5_whoCouldHaveAll_26 : decode cX5_whoCouldHaveAll 26 = .ok (.iload 5, 2) := by decide +kernel
theorem dX5_whoCouldHaveAll_28 : decode cX5_whoCouldHaveAll 28 = .ok (.iconst 1, 1) := by decide +kernel
theorem dX5_whoCouldHaveAll_29 : decode cX5_whoCouldHaveAll 29 = .ok (.iadd, 1) := by decide +kernel
theorem dX5_whoCouldHaveAll_30 : decode cX5_whoCouldHaveAll 30 = .ok (.istore 6, 2) := by decide +kernel
theorem dX5_whoCouldHaveAll_32 : decode cX5_whoCouldHaveAll 32 = .ok (.iload 6, 2) := by decide +kernel
theorem dX5_whoCouldHaveAll_34 : decode cX5_whoCouldHaveAll 34 = .ok (.aload_n 0, 1) := by decide +kernel
theorem dX5_whoCouldHaveAll_35 : decode cX5_whoCouldHaveAll 35 = .ok (.getfield 195, 3) := by decide +kernel
theorem dX5_whoCouldHaveAll_38 : decode cX5_whoCouldHaveAll 38 = .ok (.if_icmp .ge 47, 3) := by decide +kernel
theorem dX5_whoCouldHaveAll_41 : decode cX5_whoCouldHaveAll 41 = .ok (.aload_n 0, 1) := by decide +kernel
theorem dX5_whoCouldHaveAll_42 : decode cX5_whoCouldHaveAll 42 = .ok (.aload_n 1, 1) := by decide +kernel
theorem dX5_whoCouldHaveAll_43 : decode cX5_whoCouldHaveAll 43 = .ok (.iload_n 2, 1) := by decide +kernel
theorem dX5_whoCouldHaveAll_44 : decode cX5_whoCouldHaveAll 44 = .ok (.invokestatic 205, 3) := by decide +kernel
theorem dX5_whoCouldHaveAll_47 : decode cX5_whoCouldHaveAll 47 = .ok (.astore 7, 2) := by decide +kernel
theorem dX5_whoCouldHaveAll_49 : decode cX5_whoCouldHaveAll 49 = .ok (.aload 7, 2) := by decide +kernel
theorem dX5_whoCouldHaveAll_51 : decode cX5_whoCouldHaveAll 51 = .ok (.ifnull 28, 3) := by decide +kernel
theorem dX5_whoCouldHaveAll_54 : decode cX5_whoCouldHaveAll 54 = .ok (.aload 7, 2) := by decide +kernel
theorem dX5_whoCouldHaveAll_56 : decode cX5_whoCouldHaveAll 56 = .ok (.iload 5, 2) := by decide +kernel
theorem dX5_whoCouldHaveAll_58 : decode cX5_whoCouldHaveAll 58 = .ok (.iload 6, 2) := by decide +kernel
theorem dX5_whoCouldHaveAll_60 : decode cX5_whoCouldHaveAll 60 = .ok (.invokevirtual 137, 3) := by decide +kernel
theorem dX5_whoCouldHaveAll_63 : decode cX5_whoCouldHaveAll 63 = .ok (.pop, 1) := by decide +kernel
theorem dX5_whoCouldHaveAll_64 : decode cX5_whoCouldHaveAll 64 = .ok (.iload 4, 2) := by decide +kernel
theorem dX5_whoCouldHaveAll_66 : decode cX5_whoCouldHaveAll 66 = .ok (.aload 7, 2) := by decide +kernel
theorem dX5_whoCouldHaveAll_68 : decode cX5_whoCouldHaveAll 68 = .ok (.aload_n 1, 1) := by decide +kernel
theorem dX5_whoCouldHaveAll_69 : decode cX5_whoCouldHaveAll 69 = .ok (.iload_n 2, 1) := by decide +kernel
theorem dX5_whoCouldHaveAll_70 : decode cX5_whoCouldHaveAll 70 = .ok (.iconst 1, 1) := by decide +kernel
theorem dX5_whoCouldHaveAll_71 : decode cX5_whoCouldHaveAll 71 = .ok (.iadd, 1) := by decide +kernel
theorem dX5_whoCouldHaveAll_72 : decode cX5_whoCouldHaveAll 72 = .ok (.iload_n 3, 1) := by decide +kernel
theorem dX5_whoCouldHaveAll_73 : decode cX5_whoCouldHaveAll 73 = .ok (.invokestatic 214, 3) := by decide +kernel
theorem dX5_whoCouldHaveAll_76 : decode cX5_whoCouldHaveAll 76 = .ok (.ior, 1) := by decide +kernel
theorem dX5_whoCouldHaveAll_77 : decode cX5_whoCouldHaveAll 77 = .ok (.istore 4, 2) := by decide +kernel
theorem dX5_whoCouldHaveAll_79 : decode cX5_whoCouldHaveAll 79 = .ok (.iinc 6 1, 3) := by decide +kernel
theorem dX5_whoCouldHaveAll_82 : decode cX5_whoCouldHaveAll 82 = .ok (.goto (-50), 3) := by decide +kernel
theorem dX5_whoCouldHaveAll_85 : decode cX5_whoCouldHaveAll 85 = .ok (.iinc 5 1, 3) := by decide +kernel
theorem dX5_whoCouldHaveAll_88 : decode cX5_whoCouldHaveAll 88 = .ok (.goto (-71), 3) := by decide +kernel
theorem dX5_whoCouldHaveAll_91 : decode cX5_whoCouldHaveAll 91 = .ok (.iload 4, 2) := by decide +kernel
theorem dX5_whoCouldHaveAll_93 : decode cX5_whoCouldHaveAll 93 = .ok (.ireturn, 1) := by decide +kernel
theorem dX5_soon_0 : decode cX5_soon 0 = .ok (.aload_n 0, 1) := by decide +kernel
theorem dX5_soon_1 : decode cX5_soon 1 = .ok (.getfield 42, 3) := by decide +kernel
theorem dX5_soon_4 : decode cX5_soon 4 = .ok (.iload_n 1, 1) := by decide +kernel
theorem dX5_soon_5 : decode cX5_soon 5 = .ok (.iload_n 2, 1) := by decide +kernel
theorem dX5_soon_6 : decode cX5_soon 6 = .ok (.invokevirtual 116, 3) := by decide +kernel
theorem dX5_soon_9 : decode cX5_soon 9 = .ok (.ifCond .ne 6, 3) := by decide +kernel
theorem dX5_soon_12 : decode cX5_soon 12 = .ok (.bipush (-2), 2) := by decide +kernel
theorem dX5_soon_14 : decode cX5_soon 14 = .ok (.ireturn, 1) := by decide +kernel
theorem dX5_soon_15 : decode cX5_soon 15 = .ok (.aload_n 0, 1) := by decide +kernel
theorem dX5_soon_16 : decode cX5_soon 16 = .ok (.invokevirtual 133, 3) := by decide +kernel
theorem dX5_soon_19 : decode cX5_soon 19 = .ok (.astore_n 3, 1) := by decide +kernel
theorem dX5_soon_20 : decode cX5_soon 20 = .ok (.iconst 0, 1) := by decide +kernel
theorem dX5_soon_21 : decode cX5_soon 21 = .ok (.istore 4, 2) := by decide +kernel
theorem dX5_soon_23 : decode cX5_soon 23 = .ok (.iload 4, 2) := by decide +kernel
theorem dX5_soon_25 : decode cX5_soon 25 = .ok (.bipush 20, 2) := by decide +kernel
theorem dX5_soon_27 : decode cX5_soon 27 = .ok (.if_icmp .gt 28, 3) := by decide +kernel
theorem dX5_soon_30 : decode cX5_soon 30 = .ok (.aload_n 3, 1) := by decide +kernel
theorem dX5_soon_31 : decode cX5_soon 31 = .ok (.getfield 110, 3) := by decide +kernel
theorem dX5_soon_34 : decode cX5_soon 34 = .ok (.iload_n 1, 1) := by decide +kernel
theorem dX5_soon_35 : decode cX5_soon 35 = .ok (.iaload, 1) := by decide +kernel
theorem dX5_soon_36 : decode cX5_soon 36 = .ok (.ifCond .ne 6, 3) := by decide +kernel
theorem dX5_soon_39 : decode cX5_soon 39 = .ok (.iload 4, 2) := by decide +kernel
theorem dX5_soon_41 : decode cX5_soon 41 = .ok (.ireturn, 1) := by decide +kernel
theorem dX5_soon_42 : decode cX5_soon 42 = .ok (.aload_n 3, 1) := by decide +kernel
theorem dX5_soon_43 : decode cX5_soon 43 = .ok (.iload_n 1, 1) := by decide +kernel
theorem dX5_soon_44 : decode cX5_soon 44 = .ok (.iload_n 2, 1) := by decide +kernel
theorem dX5_soon_45 : decode cX5_soon 45 = .ok (.invokevirtual 137, 3) := by decide +kernel
theorem dX5_soon_48 : decode cX5_soon 48 = .ok (.pop, 1) := by decide +kernel
theorem dX5_soon_49 : decode cX5_soon 49 = .ok (.iinc 4 1, 3) := by decide +kernel
theorem dX5_soon_52 : decode cX5_soon 52 = .ok (.goto (-29), 3) := by decide +kernel
theorem dX5_soon_55 : decode cX5_soon 55 = .ok (.iconst (-1), 1) := by decide +kernel
theorem dX5_soon_56 : decode cX5_soon 56 = .ok (.ireturn, 1) := by decide +kernel
theorem dX5_tells_0 : decode cX5_tells 0 = .ok (.aload_n 0, 1) := by decide +kernel
theorem dX5_tells_1 : decode cX5_tells 1 = .ok (.iload_n 1, 1) := by decide +kernel
theorem dX5_tells_2 : decode cX5_tells 2 = .ok (.invokevirtual 155, 3) := by decide +kernel
theorem dX5_tells_5 : decode cX5_tells 5 = .ok (.astore 4, 2) := by decide +kernel
theorem dX5_tells_7 : decode cX5_tells 7 = .ok (.aload 4, 2) := by decide +kernel
theorem dX5_tells_9 : decode cX5_tells 9 = .ok (.ifnull 24, 3) := by decide +kernel
theorem dX5_tells_12 : decode cX5_tells 12 = .ok (.aload_n 0, 1) := by decide +kernel
theorem dX5_tells_13 : decode cX5_tells 13 = .ok (.getfield 42, 3) := by decide +kernel
theorem dX5_tells_16 : decode cX5_tells 16 = .ok (.iload_n 2, 1) := by decide +kernel
theorem dX5_tells_17 : decode cX5_tells 17 = .ok (.invokevirtual 90, 3) := by decide +kernel
theorem dX5_tells_20 : decode cX5_tells 20 = .ok (.ifCond .eq 13, 3) := by decide +kernel
theorem dX5_tells_23 : decode cX5_tells 23 = .ok (.iload_n 3, 1) := by decide +kernel
theorem dX5_tells_24 : decode cX5_tells 24 = .ok (.iconst 0, 1) := by decide +kernel
theorem dX5_tells_25 : decode cX5_tells 25 = .ok (.bipush 8, 2) := by decide +kernel
theorem dX5_tells_27 : decode cX5_tells 27 = .ok (.invokestatic 82, 3) := by decide +kernel
theorem dX5_tells_30 : decode cX5_tells 30 = .ok (.ifCond .ne 6, 3) := by decide +kernel
theorem dX5_tells_33 : decode cX5_tells 33 = .ok (.bipush (-2), 2) := by decide +kernel
theorem dX5_tells_35 : decode cX5_tells 35 = .ok (.ireturn, 1) := by decide +kernel
theorem dX5_tells_36 : decode cX5_tells 36 = .ok (.aload 4, 2) := by decide +kernel
theorem dX5_tells_38 : decode cX5_tells 38 = .ok (.invokevirtual 159, 3) := by decide +kernel
theorem dX5_tells_41 : decode cX5_tells 41 = .ok (.ifCond .eq 6, 3) := by decide +kernel
theorem dX5_tells_44 : decode cX5_tells 44 = .ok (.bipush (-11), 2) := by decide +kernel
theorem dX5_tells_46 : decode cX5_tells 46 = .ok (.ireturn, 1) := by decide +kernel
theorem dX5_tells_47 : decode cX5_tells 47 = .ok (.aload 4, 2) := by decide +kernel
theorem dX5_tells_49 : decode cX5_tells 49 = .ok (.getfield 178, 3) := by decide +kernel
theorem dX5_tells_52 : decode cX5_tells 52 = .ok (.aload_n 0, 1) := by decide +kernel
theorem dX5_tells_53 : decode cX5_tells 53 = .ok (.getfield 42, 3) := by decide +kernel
theorem dX5_tells_56 : decode cX5_tells 56 = .ok (.getfield 195, 3) := by decide +kernel
theorem dX5_tells_59 : decode cX5_tells 59 = .ok (.if_icmp .eq 6, 3) := by decide +kernel
theorem dX5_tells_62 : decode cX5_tells 62 = .ok (.bipush (-2), 2) := by decide +kernel
theorem dX5_tells_64 : decode cX5_tells 64 = .ok (.ireturn, 1) := by decide +kernel
theorem dX5_tells_65 : decode cX5_tells 65 = .ok (.iload_n 3, 1) := by decide +kernel
theorem dX5_tells_66 : decode cX5_tells 66 = .ok (.tableswitch 104 0 8 #[50, 104, 104, 61, 70, 79, 88, 104, 97], 50) := by decide +kernel
theorem dX5_tells_116 : decode cX5_tells 116 = .ok (.aload_n 0, 1) := by decide +kernel
theorem dX5_tells_117 : decode cX5_tells 117 = .ok (.getfield 42, 3) := by decide +kernel
theorem dX5_tells_120 : decode cX5_tells 120 = .ok (.aload 4, 2) := by decide +kernel
theorem dX5_tells_122 : decode cX5_tells 122 = .ok (.iload_n 2, 1) := by decide +kernel
theorem dX5_tells_123 : decode cX5_tells 123 = .ok (.invokestatic 221, 3) := by decide +kernel
theorem dX5_tells_126 : decode cX5_tells 126 = .ok (.ireturn, 1) := by decide +kernel
theorem dX5_tells_127 : decode cX5_tells 127 = .ok (.aload_n 0, 1) := by decide +kernel
theorem dX5_tells_128 : decode cX5_tells 128 = .ok (.aload 4, 2) := by decide +kernel
theorem dX5_tells_130 : decode cX5_tells 130 = .ok (.iload_n 2, 1) := by decide +kernel
theorem dX5_tells_131 : decode cX5_tells 131 = .ok (.iconst 0, 1) := by decide +kernel
theorem dX5_tells_132 : decode cX5_tells 132 = .ok (.invokevirtual 225, 3) := by decide +kernel
theorem dX5_tells_135 : decode cX5_tells 135 = .ok (.ireturn, 1) := by decide +kernel
theorem dX5_tells_136 : decode cX5_tells 136 = .ok (.aload_n 0, 1) := by decide +kernel
theorem dX5_tells_137 : decode cX5_tells 137 = .ok (.aload 4, 2) := by decide +kernel
theorem dX5_tells_139 : decode cX5_tells 139 = .ok (.iload_n 2, 1) := by decide +kernel
theorem dX5_tells_140 : decode cX5_tells 140 = .ok (.iconst 0, 1) := by decide +kernel
theorem dX5_tells_141 : decode cX5_tells 141 = .ok (.invokevirtual 229, 3) := by decide +kernel
theorem dX5_tells_144 : decode cX5_tells 144 = .ok (.ireturn, 1) := by decide +kernel
theorem dX5_tells_145 : decode cX5_tells 145 = .ok (.aload_n 0, 1) := by decide +kernel
theorem dX5_tells_146 : decode cX5_tells 146 = .ok (.aload 4, 2) := by decide +kernel
theorem dX5_tells_148 : decode cX5_tells 148 = .ok (.iload_n 2, 1) := by decide +kernel
theorem dX5_tells_149 : decode cX5_tells 149 = .ok (.iconst 4, 1) := by decide +kernel
theorem dX5_tells_150 : decode cX5_tells 150 = .ok (.invokevirtual 225, 3) := by decide +kernel
theorem dX5_tells_153 : decode cX5_tells 153 = .ok (.ireturn, 1) := by decide +kernel
theorem dX5_tells_154 : decode cX5_tells 154 = .ok (.aload_n 0, 1) := by decide +kernel
theorem dX5_tells_155 : decode cX5_tells 155 = .ok (.aload 4, 2) := by decide +kernel
theorem dX5_tells_157 : decode cX5_tells 157 = .ok (.iload_n 2, 1) := by decide +kernel
theorem dX5_tells_158 : decode cX5_tells 158 = .ok (.iconst 4, 1) := by decide +kernel
theorem dX5_tells_159 : decode cX5_tells 159 = .ok (.invokevirtual 229, 3) := by decide +kernel
theorem dX5_tells_162 : decode cX5_tells 162 = .ok (.ireturn, 1) := by decide +kernel
theorem dX5_tells_163 : decode cX5_tells 163 = .ok (.aload_n 0, 1) := by decide +kernel
theorem dX5_tells_164 : decode cX5_tells 164 = .ok (.aload 4, 2) := by decide +kernel
theorem dX5_tells_166 : decode cX5_tells 166 = .ok (.invokevirtual 232, 3) := by decide +kernel
theorem dX5_tells_169 : decode cX5_tells 169 = .ok (.ireturn, 1) := by decide +kernel
theorem dX5_tells_170 : decode cX5_tells 170 = .ok (.aload_n 0, 1) := by decide +kernel
theorem dX5_tells_171 : decode cX5_tells 171 = .ok (.aload 4, 2) := by decide +kernel
theorem dX5_tells_173 : decode cX5_tells 173 = .ok (.iload_n 2, 1) := by decide +kernel
theorem dX5_tells_174 : decode cX5_tells 174 = .ok (.iload_n 3, 1) := by decide +kernel
theorem dX5_tells_175 : decode cX5_tells 175 = .ok (.invokevirtual 236, 3) := by decide +kernel
theorem dX5_tells_178 : decode cX5_tells 178 = .ok (.ireturn, 1) := by decide +kernel
theorem dX5_firstOtherwise_0 : decode cX5_firstOtherwise 0 = .ok (.iconst 0, 1) := by decide +kernel
theorem dX5_firstOtherwise_1 : decode cX5_firstOtherwise 1 = .ok (.istore_n 3, 1) := by decide +kernel
theorem dX5_firstOtherwise_2 : decode cX5_firstOtherwise 2 = .ok (.iload_n 3, 1) := by decide +kernel
theorem dX5_firstOtherwise_3 : decode cX5_firstOtherwise 3 = .ok (.aload_n 0, 1) := by decide +kernel
theorem dX5_firstOtherwise_4 : decode cX5_firstOtherwise 4 = .ok (.getfield 195, 3) := by decide +kernel
theorem dX5_firstOtherwise_7 : decode cX5_firstOtherwise 7 = .ok (.if_icmp .ge 25, 3) := by decide +kernel
theorem dX5_firstOtherwise_10 : decode cX5_firstOtherwise 10 = .ok (.aload_n 0, 1) := by decide +kernel
theorem dX5_firstOtherwise_11 : decode cX5_firstOtherwise 11 = .ok (.iload_n 2, 1) := by decide +kernel
theorem dX5_firstOtherwise_12 : decode cX5_firstOtherwise 12 = .ok (.iload_n 3, 1) := by decide +kernel
theorem dX5_firstOtherwise_13 : decode cX5_firstOtherwise 13 = .ok (.invokevirtual 120, 3) := by decide +kernel
theorem dX5_firstOtherwise_16 : decode cX5_firstOtherwise 16 = .ok (.aload_n 1, 1) := by decide +kernel
theorem dX5_firstOtherwise_17 : decode cX5_firstOtherwise 17 = .ok (.iload_n 3, 1) := by decide +kernel
theorem dX5_firstOtherwise_18 : decode cX5_firstOtherwise 18 = .ok (.invokevirtual 179, 3) := by decide +kernel
theorem dX5_firstOtherwise_21 : decode cX5_firstOtherwise 21 = .ok (.if_icmp .eq 5, 3) := by decide +kernel
theorem dX5_firstOtherwise_24 : decode cX5_firstOtherwise 24 = .ok (.iload_n 3, 1) := by decide +kernel
theorem dX5_firstOtherwise_25 : decode cX5_firstOtherwise 25 = .ok (.ireturn, 1) := by decide +kernel
theorem dX5_firstOtherwise_26 : decode cX5_firstOtherwise 26 = .ok (.iinc 3 1, 3) := by decide +kernel
theorem dX5_firstOtherwise_29 : decode cX5_firstOtherwise 29 = .ok (.goto (-27), 3) := by decide +kernel
theorem dX5_firstOtherwise_32 : decode cX5_firstOtherwise 32 = .ok (.iconst (-1), 1) := by decide +kernel
theorem dX5_firstOtherwise_33 : decode cX5_firstOtherwise 33 = .ok (.ireturn, 1) := by decide +kernel
theorem dX5_fits_0 : decode cX5_fits 0 = .ok (.aload_n 0, 1) := by decide +kernel
theorem dX5_fits_1 : decode cX5_fits 1 = .ok (.invokevirtual 133, 3) := by decide +kernel
theorem dX5_fits_4 : decode cX5_fits 4 = .ok (.astore 5, 2) := by decide +kernel
theorem dX5_fits_6 : decode cX5_fits 6 = .ok (.aload 5, 2) := by decide +kernel
theorem dX5_fits_8 : decode cX5_fits 8 = .ok (.iload_n 2, 1) := by decide +kernel
theorem dX5_fits_9 : decode cX5_fits 9 = .ok (.invokevirtual 90, 3) := by decide +kernel
theorem dX5_fits_12 : decode cX5_fits 12 = .ok (.ifCond .ne 5, 3) := by decide +kernel
theorem dX5_fits_15 : decode cX5_fits 15 = .ok (.iconst 0, 1) := by decide +kernel
theorem dX5_fits_16 : decode cX5_fits 16 = .ok (.ireturn, 1) := by decide +kernel
theorem dX5_fits_17 : decode cX5_fits 17 = .ok (.iload_n 3, 1) := by decide +kernel
theorem dX5_fits_18 : decode cX5_fits 18 = .ok (.ifCond .ne 15, 3) := by decide +kernel
theorem dX5_fits_21 : decode cX5_fits 21 = .ok (.aload 5, 2) := by decide +kernel
theorem dX5_fits_23 : decode cX5_fits 23 = .ok (.getfield 79, 3) := by decide +kernel
theorem dX5_fits_26 : decode cX5_fits 26 = .ok (.iload_n 2, 1) := by decide +kernel
theorem dX5_fits_27 : decode cX5_fits 27 = .ok (.iload 4, 2) := by decide +kernel
theorem dX5_fits_29 : decode cX5_fits 29 = .ok (.iastore, 1) := by decide +kernel
theorem dX5_fits_30 : decode cX5_fits 30 = .ok (.goto 10, 3) := by decide +kernel
theorem dX5_fits_33 : decode cX5_fits 33 = .ok (.aload 5, 2) := by decide +kernel
theorem dX5_fits_35 : decode cX5_fits 35 = .ok (.iload 4, 2) := by decide +kernel
theorem dX5_fits_37 : decode cX5_fits 37 = .ok (.putfield 86, 3) := by decide +kernel
theorem dX5_fits_40 : decode cX5_fits 40 = .ok (.aload 5, 2) := by decide +kernel
theorem dX5_fits_42 : decode cX5_fits 42 = .ok (.aload_n 1, 1) := by decide +kernel
theorem dX5_fits_43 : decode cX5_fits 43 = .ok (.iload_n 2, 1) := by decide +kernel
theorem dX5_fits_44 : decode cX5_fits 44 = .ok (.invokestatic 221, 3) := by decide +kernel
theorem dX5_fits_47 : decode cX5_fits 47 = .ok (.iconst (-1), 1) := by decide +kernel
theorem dX5_fits_48 : decode cX5_fits 48 = .ok (.if_icmp .ne 7, 3) := by decide +kernel
theorem dX5_fits_51 : decode cX5_fits 51 = .ok (.iconst 1, 1) := by decide +kernel
theorem dX5_fits_52 : decode cX5_fits 52 = .ok (.goto 4, 3) := by decide +kernel
theorem dX5_fits_55 : decode cX5_fits 55 = .ok (.iconst 0, 1) := by decide +kernel
theorem dX5_fits_56 : decode cX5_fits 56 = .ok (.ireturn, 1) := by decide +kernel
theorem dX5_howManyFit_0 : decode cX5_howManyFit 0 = .ok (.iconst 0, 1) := by decide +kernel
theorem dX5_howManyFit_1 : decode cX5_howManyFit 1 = .ok (.istore 4, 2) := by decide +kernel
theorem dX5_howManyFit_3 : decode cX5_howManyFit 3 = .ok (.iconst 0, 1) := by decide +kernel
theorem dX5_howManyFit_4 : decode cX5_howManyFit 4 = .ok (.istore 5, 2) := by decide +kernel
theorem dX5_howManyFit_6 : decode cX5_howManyFit 6 = .ok (.iload 5, 2) := by decide +kernel
theorem dX5_howManyFit_8 : decode cX5_howManyFit 8 = .ok (.bipush 100, 2) := by decide +kernel
theorem dX5_howManyFit_10 : decode cX5_howManyFit 10 = .ok (.if_icmp .ge 24, 3) := by decide +kernel
theorem dX5_howManyFit_13 : decode cX5_howManyFit 13 = .ok (.aload_n 0, 1) := by decide +kernel
theorem dX5_howManyFit_14 : decode cX5_howManyFit 14 = .ok (.aload_n 1, 1) := by decide +kernel
theorem dX5_howManyFit_15 : decode cX5_howManyFit 15 = .ok (.iload_n 2, 1) := by decide +kernel
theorem dX5_howManyFit_16 : decode cX5_howManyFit 16 = .ok (.iload_n 3, 1) := by decide +kernel
theorem dX5_howManyFit_17 : decode cX5_howManyFit 17 = .ok (.iload 5, 2) := by decide +kernel
theorem dX5_howManyFit_19 : decode cX5_howManyFit 19 = .ok (.invokevirtual 239, 3) := by decide +kernel
theorem dX5_howManyFit_22 : decode cX5_howManyFit 22 = .ok (.ifCond .eq 6, 3) := by decide +kernel
theorem dX5_howManyFit_25 : decode cX5_howManyFit 25 = .ok (.iinc 4 1, 3) := by decide +kernel
theorem dX5_howManyFit_28 : decode cX5_howManyFit 28 = .ok (.iinc 5 1, 3) := by decide +kernel
theorem dX5_howManyFit_31 : decode cX5_howManyFit 31 = .ok (.goto (-25), 3) := by decide +kernel
theorem dX5_howManyFit_34 : decode cX5_howManyFit 34 = .ok (.iload 4, 2) := by decide +kernel
theorem dX5_howManyFit_36 : decode cX5_howManyFit 36 = .ok (.ireturn, 1) := by decide +kernel
theorem dX5_leastThatFits_0 : decode cX5_leastThatFits 0 = .ok (.iconst 0, 1) := by decide +kernel
theorem dX5_leastThatFits_1 : decode cX5_leastThatFits 1 = .ok (.istore 4, 2) := by decide +kernel
theorem dX5_leastThatFits_3 : decode cX5_leastThatFits 3 = .ok (.iload 4, 2) := by decide +kernel
theorem dX5_leastThatFits_5 : decode cX5_leastThatFits 5 = .ok (.bipush 100, 2) := by decide +kernel
theorem dX5_leastThatFits_7 : decode cX5_leastThatFits 7 = .ok (.if_icmp .ge 24, 3) := by decide +kernel
theorem dX5_leastThatFits_10 : decode cX5_leastThatFits 10 = .ok (.aload_n 0, 1) := by decide +kernel
theorem dX5_leastThatFits_11 : decode cX5_leastThatFits 11 = .ok (.aload_n 1, 1) := by decide +kernel
theorem dX5_leastThatFits_12 : decode cX5_leastThatFits 12 = .ok (.iload_n 2, 1) := by decide +kernel
theorem dX5_leastThatFits_13 : decode cX5_leastThatFits 13 = .ok (.iload_n 3, 1) := by decide +kernel
theorem dX5_leastThatFits_14 : decode cX5_leastThatFits 14 = .ok (.iload 4, 2) := by decide +kernel
theorem dX5_leastThatFits_16 : decode cX5_leastThatFits 16 = .ok (.invokevirtual 239, 3) := by decide +kernel
theorem dX5_leastThatFits_19 : decode cX5_leastThatFits 19 = .ok (.ifCond .eq 6, 3) := by decide +kernel
theorem dX5_leastThatFits_22 : decode cX5_leastThatFits 22 = .ok (.iload 4, 2) := by decide +kernel
theorem dX5_leastThatFits_24 : decode cX5_leastThatFits 24 = .ok (.ireturn, 1) := by decide +kernel
theorem dX5_leastThatFits_25 : decode cX5_leastThatFits 25 = .ok (.iinc 4 1, 3) := by decide +kernel
theorem dX5_leastThatFits_28 : decode cX5_leastThatFits 28 = .ok (.goto (-25), 3) := by decide +kernel
theorem dX5_leastThatFits_31 : decode cX5_leastThatFits 31 = .ok (.iconst (-1), 1) := by decide +kernel
theorem dX5_leastThatFits_32 : decode cX5_leastThatFits 32 = .ok (.ireturn, 1) := by decide +kernel
theorem dX5_playersThatFit_0 : decode cX5_playersThatFit 0 = .ok (.iconst 0, 1) := by decide +kernel
theorem dX5_playersThatFit_1 : decode cX5_playersThatFit 1 = .ok (.istore_n 2, 1) := by decide +kernel
theorem dX5_playersThatFit_2 : decode cX5_playersThatFit 2 = .ok (.iconst 0, 1) := by decide +kernel
theorem dX5_playersThatFit_3 : decode cX5_playersThatFit 3 = .ok (.istore_n 3, 1) := by decide +kernel
theorem dX5_playersThatFit_4 : decode cX5_playersThatFit 4 = .ok (.iload_n 3, 1) := by decide +kernel
theorem dX5_playersThatFit_5 : decode cX5_playersThatFit 5 = .ok (.aload_n 0, 1) := by decide +kernel
theorem dX5_playersThatFit_6 : decode cX5_playersThatFit 6 = .ok (.getfield 42, 3) := by decide +kernel
theorem dX5_playersThatFit_9 : decode cX5_playersThatFit 9 = .ok (.getfield 195, 3) := by decide +kernel
theorem dX5_playersThatFit_12 : decode cX5_playersThatFit 12 = .ok (.if_icmp .ge 28, 3) := by decide +kernel
theorem dX5_playersThatFit_15 : decode cX5_playersThatFit 15 = .ok (.aload_n 0, 1) := by decide +kernel
theorem dX5_playersThatFit_16 : decode cX5_playersThatFit 16 = .ok (.getfield 42, 3) := by decide +kernel
theorem dX5_playersThatFit_19 : decode cX5_playersThatFit 19 = .ok (.aload_n 1, 1) := by decide +kernel
theorem dX5_playersThatFit_20 : decode cX5_playersThatFit 20 = .ok (.iload_n 3, 1) := by decide +kernel
theorem dX5_playersThatFit_21 : decode cX5_playersThatFit 21 = .ok (.invokestatic 221, 3) := by decide +kernel
theorem dX5_playersThatFit_24 : decode cX5_playersThatFit 24 = .ok (.iconst (-1), 1) := by decide +kernel
theorem dX5_playersThatFit_25 : decode cX5_playersThatFit 25 = .ok (.if_icmp .ne 9, 3) := by decide +kernel
theorem dX5_playersThatFit_28 : decode cX5_playersThatFit 28 = .ok (.iload_n 2, 1) := by decide +kernel
theorem dX5_playersThatFit_29 : decode cX5_playersThatFit 29 = .ok (.iconst 1, 1) := by decide +kernel
theorem dX5_playersThatFit_30 : decode cX5_playersThatFit 30 = .ok (.iload_n 3, 1) := by decide +kernel
theorem dX5_playersThatFit_31 : decode cX5_playersThatFit 31 = .ok (.ishl, 1) := by decide +kernel
theorem dX5_playersThatFit_32 : decode cX5_playersThatFit 32 = .ok (.ior, 1) := by decide +kernel
theorem dX5_playersThatFit_33 : decode cX5_playersThatFit 33 = .ok (.istore_n 2, 1) := by decide +kernel
theorem dX5_playersThatFit_34 : decode cX5_playersThatFit 34 = .ok (.iinc 3 1, 3) := by decide +kernel
theorem dX5_playersThatFit_37 : decode cX5_playersThatFit 37 = .ok (.goto (-33), 3) := by decide +kernel
theorem dX5_playersThatFit_40 : decode cX5_playersThatFit 40 = .ok (.iload_n 2, 1) := by decide +kernel
theorem dX5_playersThatFit_41 : decode cX5_playersThatFit 41 = .ok (.ireturn, 1) := by decide +kernel
theorem dX5_bitsThatFit_0 : decode cX5_bitsThatFit 0 = .ok (.iload_n 3, 1) := by decide +kernel
theorem dX5_bitsThatFit_1 : decode cX5_bitsThatFit 1 = .ok (.iconst 1, 1) := by decide +kernel
theorem dX5_bitsThatFit_2 : decode cX5_bitsThatFit 2 = .ok (.if_icmp .ne 8, 3) := by decide +kernel
theorem dX5_bitsThatFit_5 : decode cX5_bitsThatFit 5 = .ok (.bipush 6, 2) := by decide +kernel
theorem dX5_bitsThatFit_7 : decode cX5_bitsThatFit 7 = .ok (.goto 20, 3) := by decide +kernel
theorem dX5_bitsThatFit_10 : decode cX5_bitsThatFit 10 = .ok (.iload_n 3, 1) := by decide +kernel
theorem dX5_bitsThatFit_11 : decode cX5_bitsThatFit 11 = .ok (.iconst 2, 1) := by decide +kernel
theorem dX5_bitsThatFit_12 : decode cX5_bitsThatFit 12 = .ok (.if_icmp .ne 8, 3) := by decide +kernel
theorem dX5_bitsThatFit_15 : decode cX5_bitsThatFit 15 = .ok (.bipush 10, 2) := by decide +kernel
theorem dX5_bitsThatFit_17 : decode cX5_bitsThatFit 17 = .ok (.goto 10, 3) := by decide +kernel
theorem dX5_bitsThatFit_20 : decode cX5_bitsThatFit 20 = .ok (.aload_n 0, 1) := by decide +kernel
theorem dX5_bitsThatFit_21 : decode cX5_bitsThatFit 21 = .ok (.getfield 10, 3) := by decide +kernel
theorem dX5_bitsThatFit_24 : decode cX5_bitsThatFit 24 = .ok (.getfield 146, 3) := by decide +kernel
theorem dX5_bitsThatFit_27 : decode cX5_bitsThatFit 27 = .ok (.istore 4, 2) := by decide +kernel
theorem dX5_bitsThatFit_29 : decode cX5_bitsThatFit 29 = .ok (.aload_n 0, 1) := by decide +kernel
theorem dX5_bitsThatFit_30 : decode cX5_bitsThatFit 30 = .ok (.invokevirtual 133, 3) := by decide +kernel
theorem dX5_bitsThatFit_33 : decode cX5_bitsThatFit 33 = .ok (.astore 5, 2) := by decide +kernel
theorem dX5_bitsThatFit_35 : decode cX5_bitsThatFit 35 = .ok (.aload 5, 2) := by decide +kernel
theorem dX5_bitsThatFit_37 : decode cX5_bitsThatFit 37 = .ok (.iload_n 2, 1) := by decide +kernel
theorem dX5_bitsThatFit_38 : decode cX5_bitsThatFit 38 = .ok (.invokevirtual 90, 3) := by decide +kernel
theorem dX5_bitsThatFit_41 : decode cX5_bitsThatFit 41 = .ok (.ifCond .ne 5, 3) := by decide +kernel
theorem dX5_bitsThatFit_44 : decode cX5_bitsThatFit 44 = .ok (.iconst 0, 1) := by decide +kernel
theorem dX5_bitsThatFit_45 : decode cX5_bitsThatFit 45 = .ok (.ireturn, 1) := by decide +kernel
theorem dX5_bitsThatFit_46 : decode cX5_bitsThatFit 46 = .ok (.iconst 0, 1) := by decide +kernel
theorem dX5_bitsThatFit_47 : decode cX5_bitsThatFit 47 = .ok (.istore 6, 2) := by decide +kernel
theorem dX5_bitsThatFit_49 : decode cX5_bitsThatFit 49 = .ok (.iconst 0, 1) := by decide +kernel
theorem dX5_bitsThatFit_50 : decode cX5_bitsThatFit 50 = .ok (.istore 7, 2) := by decide +kernel
theorem dX5_bitsThatFit_52 : decode cX5_bitsThatFit 52 = .ok (.iload 7, 2) := by decide +kernel
theorem dX5_bitsThatFit_54 : decode cX5_bitsThatFit 54 = .ok (.iload 4, 2) := by decide +kernel
theorem dX5_bitsThatFit_56 : decode cX5_bitsThatFit 56 = .ok (.if_icmp .ge 70, 3) := by decide +kernel
theorem dX5_bitsThatFit_59 : decode cX5_bitsThatFit 59 = .ok (.iload_n 3, 1) := by decide +kernel
theorem dX5_bitsThatFit_60 : decode cX5_bitsThatFit 60 = .ok (.iconst 1, 1) := by decide +kernel
theorem dX5_bitsThatFit_61 : decode cX5_bitsThatFit 61 = .ok (.if_icmp .ne 15, 3) := by decide +kernel
theorem dX5_bitsThatFit_64 : decode cX5_bitsThatFit 64 = .ok (.aload 5, 2) := by decide +kernel
theorem dX5_bitsThatFit_66 : decode cX5_bitsThatFit 66 = .ok (.getfield 104, 3) := by decide +kernel
theorem dX5_bitsThatFit_69 : decode cX5_bitsThatFit 69 = .ok (.iload_n 2, 1) := by decide +kernel
theorem dX5_bitsThatFit_70 : decode cX5_bitsThatFit 70 = .ok (.iload 7, 2) := by decide +kernel
theorem dX5_bitsThatFit_72 : decode cX5_bitsThatFit 72 = .ok (.iastore, 1) := by decide +kernel
theorem dX5_bitsThatFit_73 : decode cX5_bitsThatFit 73 = .ok (.goto 27, 3) := by decide +kernel
theorem dX5_bitsThatFit_76 : decode cX5_bitsThatFit 76 = .ok (.iload_n 3, 1) := by decide +kernel
theorem dX5_bitsThatFit_77 : decode cX5_bitsThatFit 77 = .ok (.iconst 2, 1) := by decide +kernel
theorem dX5_bitsThatFit_78 : decode cX5_bitsThatFit 78 = .ok (.if_icmp .ne 15, 3) := by decide +kernel
theorem dX5_bitsThatFit_81 : decode cX5_bitsThatFit 81 = .ok (.aload 5, 2) := by decide +kernel
theorem dX5_bitsThatFit_83 : decode cX5_bitsThatFit 83 = .ok (.getfield 71, 3) := by decide +kernel
theorem dX5_bitsThatFit_86 : decode cX5_bitsThatFit 86 = .ok (.iload_n 2, 1) := by decide +kernel
theorem dX5_bitsThatFit_87 : decode cX5_bitsThatFit 87 = .ok (.iload 7, 2) := by decide +kernel
theorem dX5_bitsThatFit_89 : decode cX5_bitsThatFit 89 = .ok (.iastore, 1) := by decide +kernel
theorem dX5_bitsThatFit_90 : decode cX5_bitsThatFit 90 = .ok (.goto 10, 3) := by decide +kernel
theorem dX5_bitsThatFit_93 : decode cX5_bitsThatFit 93 = .ok (.aload 5, 2) := by decide +kernel
theorem dX5_bitsThatFit_95 : decode cX5_bitsThatFit 95 = .ok (.iload 7, 2) := by decide +kernel
theorem dX5_bitsThatFit_97 : decode cX5_bitsThatFit 97 = .ok (.putfield 152, 3) := by decide +kernel
theorem dX5_bitsThatFit_100 : decode cX5_bitsThatFit 100 = .ok (.aload 5, 2) := by decide +kernel
theorem dX5_bitsThatFit_102 : decode cX5_bitsThatFit 102 = .ok (.aload_n 1, 1) := by decide +kernel
theorem dX5_bitsThatFit_103 : decode cX5_bitsThatFit 103 = .ok (.iload_n 2, 1) := by decide +kernel
theorem dX5_bitsThatFit_104 : decode cX5_bitsThatFit 104 = .ok (.invokestatic 221, 3) := by decide +kernel
theorem dX5_bitsThatFit_107 : decode cX5_bitsThatFit 107 = .ok (.iconst (-1), 1) := by decide +kernel
theorem dX5_bitsThatFit_108 : decode cX5_bitsThatFit 108 = .ok (.if_icmp .ne 12, 3) := by decide +kernel
theorem dX5_bitsThatFit_111 : decode cX5_bitsThatFit 111 = .ok (.iload 6, 2) := by decide +kernel
theorem dX5_bitsThatFit_113 : decode cX5_bitsThatFit 113 = .ok (.iconst 1, 1) := by decide +kernel
theorem dX5_bitsThatFit_114 : decode cX5_bitsThatFit 114 = .ok (.iload 7, 2) := by decide +kernel
theorem dX5_bitsThatFit_116 : decode cX5_bitsThatFit 116 = .ok (.ishl, 1) := by decide +kernel
theorem dX5_bitsThatFit_117 : decode cX5_bitsThatFit 117 = .ok (.ior, 1) := by decide +kernel
theorem dX5_bitsThatFit_118 : decode cX5_bitsThatFit 118 = .ok (.istore 6, 2) := by decide +kernel
theorem dX5_bitsThatFit_120 : decode cX5_bitsThatFit 120 = .ok (.iinc 7 1, 3) := by decide +kernel
theorem dX5_bitsThatFit_123 : decode cX5_bitsThatFit 123 = .ok (.goto (-71), 3) := by decide +kernel
theorem dX5_bitsThatFit_126 : decode cX5_bitsThatFit 126 = .ok (.iload 6, 2) := by decide +kernel
theorem dX5_bitsThatFit_128 : decode cX5_bitsThatFit 128 = .ok (.ireturn, 1) := by decide +kernel
theorem dX5_film_0 : decode cX5_film 0 = .ok (.aload_n 0, 1) := by decide +kernel
theorem dX5_film_1 : decode cX5_film 1 = .ok (.iload_n 1, 1) := by decide +kernel
theorem dX5_film_2 : decode cX5_film 2 = .ok (.invokevirtual 155, 3) := by decide +kernel
theorem dX5_film_5 : decode cX5_film 5 = .ok (.astore_n 3, 1) := by decide +kernel
theorem dX5_film_6 : decode cX5_film 6 = .ok (.aload_n 3, 1) := by decide +kernel
theorem dX5_film_7 : decode cX5_film 7 = .ok (.ifnull 14, 3) := by decide +kernel
theorem dX5_film_10 : decode cX5_film 10 = .ok (.aload_n 0, 1) := by decide +kernel
theorem dX5_film_11 : decode cX5_film 11 = .ok (.getfield 42, 3) := by decide +kernel
theorem dX5_film_14 : decode cX5_film 14 = .ok (.iload_n 2, 1) := by decide +kernel
theorem dX5_film_15 : decode cX5_film 15 = .ok (.invokevirtual 90, 3) := by decide +kernel
theorem dX5_film_18 : decode cX5_film 18 = .ok (.ifCond .ne 6, 3) := by decide +kernel
theorem dX5_film_21 : decode cX5_film 21 = .ok (.bipush (-2), 2) := by decide +kernel
theorem dX5_film_23 : decode cX5_film 23 = .ok (.ireturn, 1) := by decide +kernel
theorem dX5_film_24 : decode cX5_film 24 = .ok (.aload_n 3, 1) := by decide +kernel
theorem dX5_film_25 : decode cX5_film 25 = .ok (.iconst 1, 1) := by decide +kernel
theorem dX5_film_26 : decode cX5_film 26 = .ok (.aload_n 0, 1) := by decide +kernel
theorem dX5_film_27 : decode cX5_film 27 = .ok (.getfield 42, 3) := by decide +kernel
theorem dX5_film_30 : decode cX5_film 30 = .ok (.getfield 195, 3) := by decide +kernel
theorem dX5_film_33 : decode cX5_film 33 = .ok (.invokevirtual 243, 3) := by decide +kernel
theorem dX5_film_36 : decode cX5_film 36 = .ok (.iconst 0, 1) := by decide +kernel
theorem dX5_film_37 : decode cX5_film 37 = .ok (.istore 4, 2) := by decide +kernel
theorem dX5_film_39 : decode cX5_film 39 = .ok (.iload 4, 2) := by decide +kernel
theorem dX5_film_41 : decode cX5_film 41 = .ok (.aload_n 0, 1) := by decide +kernel
theorem dX5_film_42 : decode cX5_film 42 = .ok (.getfield 42, 3) := by decide +kernel
theorem dX5_film_45 : decode cX5_film 45 = .ok (.getfield 195, 3) := by decide +kernel
theorem dX5_film_48 : decode cX5_film 48 = .ok (.if_icmp .ge 25, 3) := by decide +kernel
theorem dX5_film_51 : decode cX5_film 51 = .ok (.aload_n 3, 1) := by decide +kernel
theorem dX5_film_52 : decode cX5_film 52 = .ok (.iload 4, 2) := by decide +kernel
theorem dX5_film_54 : decode cX5_film 54 = .ok (.aload_n 0, 1) := by decide +kernel
theorem dX5_film_55 : decode cX5_film 55 = .ok (.getfield 42, 3) := by decide +kernel
theorem dX5_film_58 : decode cX5_film 58 = .ok (.iload_n 2, 1) := by decide +kernel
theorem dX5_film_59 : decode cX5_film 59 = .ok (.iload 4, 2) := by decide +kernel
theorem dX5_film_61 : decode cX5_film 61 = .ok (.invokevirtual 120, 3) := by decide +kernel
theorem dX5_film_64 : decode cX5_film 64 = .ok (.invokevirtual 246, 3) := by decide +kernel
theorem dX5_film_67 : decode cX5_film 67 = .ok (.iinc 4 1, 3) := by decide +kernel
theorem dX5_film_70 : decode cX5_film 70 = .ok (.goto (-31), 3) := by decide +kernel
theorem dX5_film_73 : decode cX5_film 73 = .ok (.aload_n 0, 1) := by decide +kernel
theorem dX5_film_74 : decode cX5_film 74 = .ok (.getfield 42, 3) := by decide +kernel
theorem dX5_film_77 : decode cX5_film 77 = .ok (.getfield 195, 3) := by decide +kernel
theorem dX5_film_80 : decode cX5_film 80 = .ok (.ireturn, 1) := by decide +kernel
theorem dX5_drawn_0 : decode cX5_drawn 0 = .ok (.aload_n 0, 1) := by decide +kernel
theorem dX5_drawn_1 : decode cX5_drawn 1 = .ok (.getfield 42, 3) := by decide +kernel
theorem dX5_drawn_4 : decode cX5_drawn 4 = .ok (.iload_n 2, 1) := by decide +kernel
theorem dX5_drawn_5 : decode cX5_drawn 5 = .ok (.invokevirtual 90, 3) := by decide +kernel
theorem dX5_drawn_8 : decode cX5_drawn 8 = .ok (.ifCond .eq 13, 3) := by decide +kernel
theorem dX5_drawn_11 : decode cX5_drawn 11 = .ok (.iload_n 3, 1) := by decide +kernel
theorem dX5_drawn_12 : decode cX5_drawn 12 = .ok (.iconst 0, 1) := by decide +kernel
theorem dX5_drawn_13 : decode cX5_drawn 13 = .ok (.bipush 60, 2) := by decide +kernel
theorem dX5_drawn_15 : decode cX5_drawn 15 = .ok (.invokestatic 82, 3) := by decide +kernel
theorem dX5_drawn_18 : decode cX5_drawn 18 = .ok (.ifCond .ne 6, 3) := by decide +kernel
theorem dX5_drawn_21 : decode cX5_drawn 21 = .ok (.bipush (-2), 2) := by decide +kernel
theorem dX5_drawn_23 : decode cX5_drawn 23 = .ok (.ireturn, 1) := by decide +kernel
theorem dX5_drawn_24 : decode cX5_drawn 24 = .ok (.aload_n 0, 1) := by decide +kernel
theorem dX5_drawn_25 : decode cX5_drawn 25 = .ok (.iload_n 1, 1) := by decide +kernel
theorem dX5_drawn_26 : decode cX5_drawn 26 = .ok (.iload_n 2, 1) := by decide +kernel
theorem dX5_drawn_27 : decode cX5_drawn 27 = .ok (.iload_n 3, 1) := by decide +kernel
theorem dX5_drawn_28 : decode cX5_drawn 28 = .ok (.invokevirtual 249, 3) := by decide +kernel
theorem dX5_drawn_31 : decode cX5_drawn 31 = .ok (.ireturn, 1) := by decide +kernel
theorem dX5_hasBehindDrawn_0 : decode cX5_hasBehindDrawn 0 = .ok (.aload_n 0, 1) := by decide +kernel
theorem dX5_hasBehindDrawn_1 : decode cX5_hasBehindDrawn 1 = .ok (.invokevirtual 133, 3) := by decide +kernel
theorem dX5_hasBehindDrawn_4 : decode cX5_hasBehindDrawn 4 = .ok (.astore 4, 2) := by decide +kernel
theorem dX5_hasBehindDrawn_6 : decode cX5_hasBehindDrawn 6 = .ok (.aload 4, 2) := by decide +kernel
theorem dX5_hasBehindDrawn_8 : decode cX5_hasBehindDrawn 8 = .ok (.iload_n 2, 1) := by decide +kernel
theorem dX5_hasBehindDrawn_9 : decode cX5_hasBehindDrawn 9 = .ok (.invokevirtual 90, 3) := by decide +kernel
theorem dX5_hasBehindDrawn_12 : decode cX5_hasBehindDrawn 12 = .ok (.ifCond .ne 5, 3) := by decide +kernel
theorem dX5_hasBehindDrawn_15 : decode cX5_hasBehindDrawn 15 = .ok (.iconst 0, 1) := by decide +kernel
theorem dX5_hasBehindDrawn_16 : decode cX5_hasBehindDrawn 16 = .ok (.ireturn, 1) := by decide +kernel
theorem dX5_hasBehindDrawn_17 : decode cX5_hasBehindDrawn 17 = .ok (.aload 4, 2) := by decide +kernel
theorem dX5_hasBehindDrawn_19 : decode cX5_hasBehindDrawn 19 = .ok (.getfield 195, 3) := by decide +kernel
theorem dX5_hasBehindDrawn_22 : decode cX5_hasBehindDrawn 22 = .ok (.istore 5, 2) := by decide +kernel
theorem dX5_hasBehindDrawn_24 : decode cX5_hasBehindDrawn 24 = .ok (.iload_n 1, 1) := by decide +kernel
theorem dX5_hasBehindDrawn_25 : decode cX5_hasBehindDrawn 25 = .ok (.istore 6, 2) := by decide +kernel
theorem dX5_hasBehindDrawn_27 : decode cX5_hasBehindDrawn 27 = .ok (.iconst 0, 1) := by decide +kernel
theorem dX5_hasBehindDrawn_28 : decode cX5_hasBehindDrawn 28 = .ok (.istore 7, 2) := by decide +kernel
theorem dX5_hasBehindDrawn_30 : decode cX5_hasBehindDrawn 30 = .ok (.iload 7, 2) := by decide +kernel
theorem dX5_hasBehindDrawn_32 : decode cX5_hasBehindDrawn 32 = .ok (.iload_n 3, 1) := by decide +kernel
theorem dX5_hasBehindDrawn_33 : decode cX5_hasBehindDrawn 33 = .ok (.if_icmp .ge 66, 3) := by decide +kernel
theorem dX5_hasBehindDrawn_36 : decode cX5_hasBehindDrawn 36 = .ok (.iload 5, 2) := by decide +kernel
theorem dX5_hasBehindDrawn_38 : decode cX5_hasBehindDrawn 38 = .ok (.iconst 1, 1) := by decide +kernel
theorem dX5_hasBehindDrawn_39 : decode cX5_hasBehindDrawn 39 = .ok (.if_icmp .le 60, 3) := by decide +kernel
theorem dX5_hasBehindDrawn_42 : decode cX5_hasBehindDrawn 42 = .ok (.iload 6, 2) := by decide +kernel
theorem dX5_hasBehindDrawn_44 : decode cX5_hasBehindDrawn 44 = .ok (.ldc 253, 2) := by decide +kernel
theorem dX5_hasBehindDrawn_46 : decode cX5_hasBehindDrawn 46 = .ok (.imul, 1) := by decide +kernel
theorem dX5_hasBehindDrawn_47 : decode cX5_hasBehindDrawn 47 = .ok (.sipush 12345, 3) := by decide +kernel
theorem dX5_hasBehindDrawn_50 : decode cX5_hasBehindDrawn 50 = .ok (.iadd, 1) := by decide +kernel
theorem dX5_hasBehindDrawn_51 : decode cX5_hasBehindDrawn 51 = .ok (.istore 6, 2) := by decide +kernel
theorem dX5_hasBehindDrawn_53 : decode cX5_hasBehindDrawn 53 = .ok (.iload 6, 2) := by decide +kernel
theorem dX5_hasBehindDrawn_55 : decode cX5_hasBehindDrawn 55 = .ok (.bipush 9, 2) := by decide +kernel
theorem dX5_hasBehindDrawn_57 : decode cX5_hasBehindDrawn 57 = .ok (.iushr, 1) := by decide +kernel
theorem dX5_hasBehindDrawn_58 : decode cX5_hasBehindDrawn 58 = .ok (.iload 5, 2) := by decide +kernel
theorem dX5_hasBehindDrawn_60 : decode cX5_hasBehindDrawn 60 = .ok (.irem, 1) := by decide +kernel
theorem dX5_hasBehindDrawn_61 : decode cX5_hasBehindDrawn 61 = .ok (.istore 8, 2) := by decide +kernel
theorem dX5_hasBehindDrawn_63 : decode cX5_hasBehindDrawn 63 = .ok (.iconst 1, 1) := by decide +kernel
theorem dX5_hasBehindDrawn_64 : decode cX5_hasBehindDrawn 64 = .ok (.iload 6, 2) := by decide +kernel
theorem dX5_hasBehindDrawn_66 : decode cX5_hasBehindDrawn 66 = .ok (.bipush 17, 2) := by decide +kernel
theorem dX5_hasBehindDrawn_68 : decode cX5_hasBehindDrawn 68 = .ok (.iushr, 1) := by decide +kernel
theorem dX5_hasBehindDrawn_69 : decode cX5_hasBehindDrawn 69 = .ok (.iload 5, 2) := by decide +kernel
theorem dX5_hasBehindDrawn_71 : decode cX5_hasBehindDrawn 71 = .ok (.iconst 1, 1) := by decide +kernel
theorem dX5_hasBehindDrawn_72 : decode cX5_hasBehindDrawn 72 = .ok (.isub, 1) := by decide +kernel
theorem dX5_hasBehindDrawn_73 : decode cX5_hasBehindDrawn 73 = .ok (.irem, 1) := by decide +kernel
theorem dX5_hasBehindDrawn_74 : decode cX5_hasBehindDrawn 74 = .ok (.iadd, 1) := by decide +kernel
theorem dX5_hasBehindDrawn_75 : decode cX5_hasBehindDrawn 75 = .ok (.istore 9, 2) := by decide +kernel
theorem dX5_hasBehindDrawn_77 : decode cX5_hasBehindDrawn 77 = .ok (.aload 4, 2) := by decide +kernel
theorem dX5_hasBehindDrawn_79 : decode cX5_hasBehindDrawn 79 = .ok (.iload 8, 2) := by decide +kernel
theorem dX5_hasBehindDrawn_81 : decode cX5_hasBehindDrawn 81 = .ok (.iload 8, 2) := by decide +kernel
theorem dX5_hasBehindDrawn_83 : decode cX5_hasBehindDrawn 83 = .ok (.iload 9, 2) := by decide +kernel
theorem dX5_hasBehindDrawn_85 : decode cX5_hasBehindDrawn 85 = .ok (.iadd, 1) := by decide +kernel
theorem dX5_hasBehindDrawn_86 : decode cX5_hasBehindDrawn 86 = .ok (.iload 5, 2) := by decide +kernel
theorem dX5_hasBehindDrawn_88 : decode cX5_hasBehindDrawn 88 = .ok (.irem, 1) := by decide +kernel
theorem dX5_hasBehindDrawn_89 : decode cX5_hasBehindDrawn 89 = .ok (.invokevirtual 137, 3) := by decide +kernel
theorem dX5_hasBehindDrawn_92 : decode cX5_hasBehindDrawn 92 = .ok (.pop, 1) := by decide +kernel
theorem dX5_hasBehindDrawn_93 : decode cX5_hasBehindDrawn 93 = .ok (.iinc 7 1, 3) := by decide +kernel
theorem dX5_hasBehindDrawn_96 : decode cX5_hasBehindDrawn 96 = .ok (.goto (-66), 3) := by decide +kernel
theorem dX5_hasBehindDrawn_99 : decode cX5_hasBehindDrawn 99 = .ok (.aload 4, 2) := by decide +kernel
theorem dX5_hasBehindDrawn_101 : decode cX5_hasBehindDrawn 101 = .ok (.getfield 110, 3) := by decide +kernel
theorem dX5_hasBehindDrawn_104 : decode cX5_hasBehindDrawn 104 = .ok (.iload_n 2, 1) := by decide +kernel
theorem dX5_hasBehindDrawn_105 : decode cX5_hasBehindDrawn 105 = .ok (.iaload, 1) := by decide +kernel
theorem dX5_hasBehindDrawn_106 : decode cX5_hasBehindDrawn 106 = .ok (.ireturn, 1) := by decide +kernel
theorem dX5_chance_0 : decode cX5_chance 0 = .ok (.iload_n 2, 1) := by decide +kernel
theorem dX5_chance_1 : decode cX5_chance 1 = .ok (.iconst 1, 1) := by decide +kernel
theorem dX5_chance_2 : decode cX5_chance 2 = .ok (.bipush 20, 2) := by decide +kernel
theorem dX5_chance_4 : decode cX5_chance 4 = .ok (.invokestatic 82, 3) := by decide +kernel
theorem dX5_chance_7 : decode cX5_chance 7 = .ok (.ifCond .eq 14, 3) := by decide +kernel
theorem dX5_chance_10 : decode cX5_chance 10 = .ok (.aload_n 0, 1) := by decide +kernel
theorem dX5_chance_11 : decode cX5_chance 11 = .ok (.getfield 42, 3) := by decide +kernel
theorem dX5_chance_14 : decode cX5_chance 14 = .ok (.iload_n 3, 1) := by decide +kernel
theorem dX5_chance_15 : decode cX5_chance 15 = .ok (.invokevirtual 90, 3) := by decide +kernel
theorem dX5_chance_18 : decode cX5_chance 18 = .ok (.ifCond .ne 7, 3) := by decide +kernel
theorem dX5_chance_21 : decode cX5_chance 21 = .ok (.ldc2_w 254, 3) := by decide +kernel
theorem dX5_chance_24 : decode cX5_chance 24 = .ok (.lreturn, 1) := by decide +kernel
theorem dX5_chance_25 : decode cX5_chance 25 = .ok (.iload 4, 2) := by decide +kernel
theorem dX5_chance_27 : decode cX5_chance 27 = .ok (.iconst 0, 1) := by decide +kernel
theorem dX5_chance_28 : decode cX5_chance 28 = .ok (.bipush 8, 2) := by decide +kernel
theorem dX5_chance_30 : decode cX5_chance 30 = .ok (.invokestatic 82, 3) := by decide +kernel
theorem dX5_chance_33 : decode cX5_chance 33 = .ok (.ifCond .eq 13, 3) := by decide +kernel
theorem dX5_chance_36 : decode cX5_chance 36 = .ok (.iload 5, 2) := by decide +kernel
theorem dX5_chance_38 : decode cX5_chance 38 = .ok (.iconst 0, 1) := by decide +kernel
theorem dX5_chance_39 : decode cX5_chance 39 = .ok (.iconst 1, 1) := by decide +kernel
theorem dX5_chance_40 : decode cX5_chance 40 = .ok (.invokestatic 82, 3) := by decide +kernel
theorem dX5_chance_43 : decode cX5_chance 43 = .ok (.ifCond .ne 7, 3) := by decide +kernel
theorem dX5_chance_46 : decode cX5_chance 46 = .ok (.ldc2_w 254, 3) := by decide +kernel
theorem dX5_chance_49 : decode cX5_chance 49 = .ok (.lreturn, 1) := by decide +kernel
theorem dX5_chance_50 : decode cX5_chance 50 = .ok (.iconst 0, 1) := by decide +kernel
theorem dX5_chance_51 : decode cX5_chance 51 = .ok (.istore 6, 2) := by decide +kernel
theorem dX5_chance_53 : decode cX5_chance 53 = .ok (.iconst 0, 1) := by decide +kernel
theorem dX5_chance_54 : decode cX5_chance 54 = .ok (.istore 7, 2) := by decide +kernel
theorem dX5_chance_56 : decode cX5_chance 56 = .ok (.iload 7, 2) := by decide +kernel
theorem dX5_chance_58 : decode cX5_chance 58 = .ok (.iload_n 2, 1) := by decide +kernel
theorem dX5_chance_59 : decode cX5_chance 59 = .ok (.if_icmp .ge 31, 3) := by decide +kernel
theorem dX5_chance_62 : decode cX5_chance 62 = .ok (.aload_n 0, 1) := by decide +kernel
theorem dX5_chance_63 : decode cX5_chance 63 = .ok (.iload_n 1, 1) := by decide +kernel
theorem dX5_chance_64 : decode cX5_chance 64 = .ok (.iload 7, 2) := by decide +kernel
theorem dX5_chance_66 : decode cX5_chance 66 = .ok (.iadd, 1) := by decide +kernel
theorem dX5_chance_67 : decode cX5_chance 67 = .ok (.iload_n 3, 1) := by decide +kernel
theorem dX5_chance_68 : decode cX5_chance 68 = .ok (.bipush 6, 2) := by decide +kernel
theorem dX5_chance_70 : decode cX5_chance 70 = .ok (.invokevirtual 249, 3) := by decide +kernel
theorem dX5_chance_73 : decode cX5_chance 73 = .ok (.invokestatic 256, 3) := by decide +kernel
theorem dX5_chance_76 : decode cX5_chance 76 = .ok (.iload 4, 2) := by decide +kernel
theorem dX5_chance_78 : decode cX5_chance 78 = .ok (.if_icmp .lt 6, 3) := by decide +kernel
theorem dX5_chance_81 : decode cX5_chance 81 = .ok (.iinc 6 1, 3) := by decide +kernel
theorem dX5_chance_84 : decode cX5_chance 84 = .ok (.iinc 7 1, 3) := by decide +kernel
theorem dX5_chance_87 : decode cX5_chance 87 = .ok (.goto (-31), 3) := by decide +kernel
theorem dX5_chance_90 : decode cX5_chance 90 = .ok (.iload 5, 2) := by decide +kernel
theorem dX5_chance_92 : decode cX5_chance 92 = .ok (.iload 6, 2) := by decide +kernel
theorem dX5_chance_94 : decode cX5_chance 94 = .ok (.iload_n 2, 1) := by decide +kernel
theorem dX5_chance_95 : decode cX5_chance 95 = .ok (.invokestatic 261, 3) := by decide +kernel
theorem dX5_chance_98 : decode cX5_chance 98 = .ok (.i2l, 1) := by decide +kernel
theorem dX5_chance_99 : decode cX5_chance 99 = .ok (.lreturn, 1) := by decide +kernel
theorem dX5_partOfLowest_0 : decode cX5_partOfLowest 0 = .ok (.iload_n 2, 1) := by decide +kernel
theorem dX5_partOfLowest_1 : decode cX5_partOfLowest 1 = .ok (.istore_n 3, 1) := by decide +kernel
theorem dX5_partOfLowest_2 : decode cX5_partOfLowest 2 = .ok (.iload_n 3, 1) := by decide +kernel
theorem dX5_partOfLowest_3 : decode cX5_partOfLowest 3 = .ok (.ifCond .le 35, 3) := by decide +kernel
theorem dX5_partOfLowest_6 : decode cX5_partOfLowest 6 = .ok (.iload_n 1, 1) := by decide +kernel
theorem dX5_partOfLowest_7 : decode cX5_partOfLowest 7 = .ok (.iload_n 3, 1) := by decide +kernel
theorem dX5_partOfLowest_8 : decode cX5_partOfLowest 8 = .ok (.irem, 1) := by decide +kernel
theorem dX5_partOfLowest_9 : decode cX5_partOfLowest 9 = .ok (.ifCond .ne 23, 3) := by decide +kernel
theorem dX5_partOfLowest_12 : decode cX5_partOfLowest 12 = .ok (.iload_n 2, 1) := by decide +kernel
theorem dX5_partOfLowest_13 : decode cX5_partOfLowest 13 = .ok (.iload_n 3, 1) := by decide +kernel
theorem dX5_partOfLowest_14 : decode cX5_partOfLowest 14 = .ok (.irem, 1) := by decide +kernel
theorem dX5_partOfLowest_15 : decode cX5_partOfLowest 15 = .ok (.ifCond .ne 17, 3) := by decide +kernel
theorem dX5_partOfLowest_18 : decode cX5_partOfLowest 18 = .ok (.iload_n 0, 1) := by decide +kernel
theorem dX5_partOfLowest_19 : decode cX5_partOfLowest 19 = .ok (.ifCond .ne 9, 3) := by decide +kernel
theorem dX5_partOfLowest_22 : decode cX5_partOfLowest 22 = .ok (.iload_n 1, 1) := by decide +kernel
theorem dX5_partOfLowest_23 : decode cX5_partOfLowest 23 = .ok (.iload_n 3, 1) := by decide +kernel
theorem dX5_partOfLowest_24 : decode cX5_partOfLowest 24 = .ok (.idiv, 1) := by decide +kernel
theorem dX5_partOfLowest_25 : decode cX5_partOfLowest 25 = .ok (.goto 6, 3) := by decide +kernel
theorem dX5_partOfLowest_28 : decode cX5_partOfLowest 28 = .ok (.iload_n 2, 1) := by decide +kernel
theorem dX5_partOfLowest_29 : decode cX5_partOfLowest 29 = .ok (.iload_n 3, 1) := by decide +kernel
theorem dX5_partOfLowest_30 : decode cX5_partOfLowest 30 = .ok (.idiv, 1) := by decide +kernel
theorem dX5_partOfLowest_31 : decode cX5_partOfLowest 31 = .ok (.ireturn, 1) := by decide +kernel
theorem dX5_partOfLowest_32 : decode cX5_partOfLowest 32 = .ok (.iinc 3 (-1), 3) := by decide +kernel
theorem dX5_partOfLowest_35 : decode cX5_partOfLowest 35 = .ok (.goto (-33), 3) := by decide +kernel
theorem dX5_partOfLowest_38 : decode cX5_partOfLowest 38 = .ok (.iconst (-1), 1) := by decide +kernel
theorem dX5_partOfLowest_39 : decode cX5_partOfLowest 39 = .ok (.ireturn, 1) := by decide +kernel
theorem dX5_image_0 : decode cX5_image 0 = .ok (.aload_n 0, 1) := by decide +kernel
theorem dX5_image_1 : decode cX5_image 1 = .ok (.getfield 46, 3) := by decide +kernel
theorem dX5_image_4 : decode cX5_image 4 = .ok (.aload_n 0, 1) := by decide +kernel
theorem dX5_image_5 : decode cX5_image 5 = .ok (.getfield 42, 3) := by decide +kernel
theorem dX5_image_8 : decode cX5_image 8 = .ok (.invokevirtual 264, 3) := by decide +kernel
theorem dX5_image_11 : decode cX5_image 11 = .ok (.aload_n 0, 1) := by decide +kernel
theorem dX5_image_12 : decode cX5_image 12 = .ok (.iconst 1, 1) := by decide +kernel
theorem dX5_image_13 : decode cX5_image 13 = .ok (.putfield 268, 3) := by decide +kernel
theorem dX5_image_16 : decode cX5_image 16 = .ok (.aload_n 0, 1) := by decide +kernel
theorem dX5_image_17 : decode cX5_image 17 = .ok (.getfield 42, 3) := by decide +kernel
theorem dX5_image_20 : decode cX5_image 20 = .ok (.getfield 195, 3) := by decide +kernel
theorem dX5_image_23 : decode cX5_image 23 = .ok (.ireturn, 1) := by decide +kernel
theorem dX5_back_0 : decode cX5_back 0 = .ok (.aload_n 0, 1) := by decide +kernel
theorem dX5_back_1 : decode cX5_back 1 = .ok (.getfield 268, 3) := by decide +kernel
theorem dX5_back_4 : decode cX5_back 4 = .ok (.ifCond .ne 6, 3) := by decide +kernel
theorem dX5_back_7 : decode cX5_back 7 = .ok (.bipush (-3), 2) := by decide +kernel
theorem dX5_back_9 : decode cX5_back 9 = .ok (.ireturn, 1) := by decide +kernel
theorem dX5_back_10 : decode cX5_back 10 = .ok (.aload_n 0, 1) := by decide +kernel
theorem dX5_back_11 : decode cX5_back 11 = .ok (.getfield 42, 3) := by decide +kernel
theorem dX5_back_14 : decode cX5_back 14 = .ok (.aload_n 0, 1) := by decide +kernel
theorem dX5_back_15 : decode cX5_back 15 = .ok (.getfield 46, 3) := by decide +kernel
theorem dX5_back_18 : decode cX5_back 18 = .ok (.invokevirtual 264, 3) := by decide +kernel
theorem dX5_back_21 : decode cX5_back 21 = .ok (.aload_n 0, 1) := by decide +kernel
theorem dX5_back_22 : decode cX5_back 22 = .ok (.getfield 42, 3) := by decide +kernel
theorem dX5_back_25 : decode cX5_back 25 = .ok (.getfield 195, 3) := by decide +kernel
theorem dX5_back_28 : decode cX5_back 28 = .ok (.ireturn, 1) := by decide +kernel
theorem dX5_count_0 : decode cX5_count 0 = .ok (.iload_n 1, 1) := by decide +kernel
theorem dX5_count_1 : decode cX5_count 1 = .ok (.tableswitch 87 0 5 #[39, 47, 55, 63, 71, 79], 39) := by decide +kernel
theorem dX5_count_40 : decode cX5_count 40 = .ok (.aload_n 0, 1) := by decide +kernel
theorem dX5_count_41 : decode cX5_count 41 = .ok (.getfield 42, 3) := by decide +kernel
theorem dX5_count_44 : decode cX5_count 44 = .ok (.getfield 195, 3) := by decide +kernel
theorem dX5_count_47 : decode cX5_count 47 = .ok (.ireturn, 1) := by decide +kernel
theorem dX5_count_48 : decode cX5_count 48 = .ok (.aload_n 0, 1) := by decide +kernel
theorem dX5_count_49 : decode cX5_count 49 = .ok (.getfield 42, 3) := by decide +kernel
theorem dX5_count_52 : decode cX5_count 52 = .ok (.invokevirtual 171, 3) := by decide +kernel
theorem dX5_count_55 : decode cX5_count 55 = .ok (.ireturn, 1) := by decide +kernel
theorem dX5_count_56 : decode cX5_count 56 = .ok (.aload_n 0, 1) := by decide +kernel
theorem dX5_count_57 : decode cX5_count 57 = .ok (.getfield 42, 3) := by decide +kernel
theorem dX5_count_60 : decode cX5_count 60 = .ok (.getfield 86, 3) := by decide +kernel
theorem dX5_count_63 : decode cX5_count 63 = .ok (.ireturn, 1) := by decide +kernel
theorem dX5_count_64 : decode cX5_count 64 = .ok (.aload_n 0, 1) := by decide +kernel
theorem dX5_count_65 : decode cX5_count 65 = .ok (.getfield 10, 3) := by decide +kernel
theorem dX5_count_68 : decode cX5_count 68 = .ok (.getfield 146, 3) := by decide +kernel
theorem dX5_count_71 : decode cX5_count 71 = .ok (.ireturn, 1) := by decide +kernel
theorem dX5_count_72 : decode cX5_count 72 = .ok (.aload_n 0, 1) := by decide +kernel
theorem dX5_count_73 : decode cX5_count 73 = .ok (.getfield 19, 3) := by decide +kernel
theorem dX5_count_76 : decode cX5_count 76 = .ok (.getfield 143, 3) := by decide +kernel
theorem dX5_count_79 : decode cX5_count 79 = .ok (.ireturn, 1) := by decide +kernel
theorem dX5_count_80 : decode cX5_count 80 = .ok (.aload_n 0, 1) := by decide +kernel
theorem dX5_count_81 : decode cX5_count 81 = .ok (.getfield 42, 3) := by decide +kernel
theorem dX5_count_84 : decode cX5_count 84 = .ok (.getfield 152, 3) := by decide +kernel
theorem dX5_count_87 : decode cX5_count 87 = .ok (.ireturn, 1) := by decide +kernel
theorem dX5_count_88 : decode cX5_count 88 = .ok (.bipush (-2), 2) := by decide +kernel
theorem dX5_count_90 : decode cX5_count 90 = .ok (.ireturn, 1) := by decide +kernel
theorem dX5_sheet_0 : decode cX5_sheet 0 = .ok (.aload_n 0, 1) := by decide +kernel
theorem dX5_sheet_1 : decode cX5_sheet 1 = .ok (.iload_n 1, 1) := by decide +kernel
theorem dX5_sheet_2 : decode cX5_sheet 2 = .ok (.invokevirtual 155, 3) := by decide +kernel
theorem dX5_sheet_5 : decode cX5_sheet 5 = .ok (.astore 4, 2) := by decide +kernel
theorem dX5_sheet_7 : decode cX5_sheet 7 = .ok (.aload 4, 2) := by decide +kernel
theorem dX5_sheet_9 : decode cX5_sheet 9 = .ok (.ifnull 12, 3) := by decide +kernel
theorem dX5_sheet_12 : decode cX5_sheet 12 = .ok (.iload_n 2, 1) := by decide +kernel
theorem dX5_sheet_13 : decode cX5_sheet 13 = .ok (.iconst (-1), 1) := by decide +kernel
theorem dX5_sheet_14 : decode cX5_sheet 14 = .ok (.iconst 2, 1) := by decide +kernel
theorem dX5_sheet_15 : decode cX5_sheet 15 = .ok (.invokestatic 82, 3) := by decide +kernel
theorem dX5_sheet_18 : decode cX5_sheet 18 = .ok (.ifCond .ne 6, 3) := by decide +kernel
theorem dX5_sheet_21 : decode cX5_sheet 21 = .ok (.bipush (-2), 2) := by decide +kernel
theorem dX5_sheet_23 : decode cX5_sheet 23 = .ok (.ireturn, 1) := by decide +kernel
theorem dX5_sheet_24 : decode cX5_sheet 24 = .ok (.iload_n 2, 1) := by decide +kernel
theorem dX5_sheet_25 : decode cX5_sheet 25 = .ok (.iconst (-1), 1) := by decide +kernel
theorem dX5_sheet_26 : decode cX5_sheet 26 = .ok (.if_icmp .ne 12, 3) := by decide +kernel
theorem dX5_sheet_29 : decode cX5_sheet 29 = .ok (.aload 4, 2) := by decide +kernel
theorem dX5_sheet_31 : decode cX5_sheet 31 = .ok (.iconst (-1), 1) := by decide +kernel
theorem dX5_sheet_32 : decode cX5_sheet 32 = .ok (.iconst 0, 1) := by decide +kernel
theorem dX5_sheet_33 : decode cX5_sheet 33 = .ok (.invokevirtual 243, 3) := by decide +kernel
theorem dX5_sheet_36 : decode cX5_sheet 36 = .ok (.iconst 1, 1) := by decide +kernel
theorem dX5_sheet_37 : decode cX5_sheet 37 = .ok (.ireturn, 1) := by decide +kernel
theorem dX5_sheet_38 : decode cX5_sheet 38 = .ok (.iload_n 3, 1) := by decide +kernel
theorem dX5_sheet_39 : decode cX5_sheet 39 = .ok (.bipush 40, 2) := by decide +kernel
theorem dX5_sheet_41 : decode cX5_sheet 41 = .ok (.if_icmp .le 6, 3) := by decide +kernel
theorem dX5_sheet_44 : decode cX5_sheet 44 = .ok (.bipush (-2), 2) := by decide +kernel
theorem dX5_sheet_46 : decode cX5_sheet 46 = .ok (.ireturn, 1) := by decide +kernel
theorem dX5_sheet_47 : decode cX5_sheet 47 = .ok (.iload_n 3, 1) := by decide +kernel
theorem dX5_sheet_48 : decode cX5_sheet 48 = .ok (.ifCond .ge 6, 3) := by decide +kernel
theorem dX5_sheet_51 : decode cX5_sheet 51 = .ok (.bipush (-14), 2) := by decide +kernel
theorem dX5_sheet_53 : decode cX5_sheet 53 = .ok (.ireturn, 1) := by decide +kernel
theorem dX5_sheet_54 : decode cX5_sheet 54 = .ok (.aload 4, 2) := by decide +kernel
theorem dX5_sheet_56 : decode cX5_sheet 56 = .ok (.iload_n 2, 1) := by decide +kernel
theorem dX5_sheet_57 : decode cX5_sheet 57 = .ok (.iload_n 3, 1) := by decide +kernel
theorem dX5_sheet_58 : decode cX5_sheet 58 = .ok (.invokevirtual 243, 3) := by decide +kernel
theorem dX5_sheet_61 : decode cX5_sheet 61 = .ok (.iconst 1, 1) := by decide +kernel
theorem dX5_sheet_62 : decode cX5_sheet 62 = .ok (.ireturn, 1) := by decide +kernel
theorem dX5_cell_0 : decode cX5_cell 0 = .ok (.aload_n 0, 1) := by decide +kernel
theorem dX5_cell_1 : decode cX5_cell 1 = .ok (.iload_n 1, 1) := by decide +kernel
theorem dX5_cell_2 : decode cX5_cell 2 = .ok (.invokevirtual 155, 3) := by decide +kernel
theorem dX5_cell_5 : decode cX5_cell 5 = .ok (.astore 4, 2) := by decide +kernel
theorem dX5_cell_7 : decode cX5_cell 7 = .ok (.aload 4, 2) := by decide +kernel
theorem dX5_cell_9 : decode cX5_cell 9 = .ok (.ifnonnull 6, 3) := by decide +kernel
theorem dX5_cell_12 : decode cX5_cell 12 = .ok (.bipush (-2), 2) := by decide +kernel
theorem dX5_cell_14 : decode cX5_cell 14 = .ok (.ireturn, 1) := by decide +kernel
theorem dX5_cell_15 : decode cX5_cell 15 = .ok (.aload 4, 2) := by decide +kernel
theorem dX5_cell_17 : decode cX5_cell 17 = .ok (.invokevirtual 159, 3) := by decide +kernel
theorem dX5_cell_20 : decode cX5_cell 20 = .ok (.ifCond .eq 6, 3) := by decide +kernel
theorem dX5_cell_23 : decode cX5_cell 23 = .ok (.bipush (-11), 2) := by decide +kernel
theorem dX5_cell_25 : decode cX5_cell 25 = .ok (.ireturn, 1) := by decide +kernel
theorem dX5_cell_26 : decode cX5_cell 26 = .ok (.aload 4, 2) := by decide +kernel
theorem dX5_cell_28 : decode cX5_cell 28 = .ok (.iload_n 2, 1) := by decide +kernel
theorem dX5_cell_29 : decode cX5_cell 29 = .ok (.iconst 1, 1) := by decide +kernel
theorem dX5_cell_30 : decode cX5_cell 30 = .ok (.invokevirtual 272, 3) := by decide +kernel
theorem dX5_cell_33 : decode cX5_cell 33 = .ok (.ifCond .ne 6, 3) := by decide +kernel
theorem dX5_cell_36 : decode cX5_cell 36 = .ok (.bipush (-12), 2) := by decide +kernel
theorem dX5_cell_38 : decode cX5_cell 38 = .ok (.ireturn, 1) := by decide +kernel
theorem dX5_cell_39 : decode cX5_cell 39 = .ok (.aload 4, 2) := by decide +kernel
theorem dX5_cell_41 : decode cX5_cell 41 = .ok (.iload_n 2, 1) := by decide +kernel
theorem dX5_cell_42 : decode cX5_cell 42 = .ok (.iload_n 3, 1) := by decide +kernel
theorem dX5_cell_43 : decode cX5_cell 43 = .ok (.invokevirtual 246, 3) := by decide +kernel
theorem dX5_cell_46 : decode cX5_cell 46 = .ok (.iconst 1, 1) := by decide +kernel
theorem dX5_cell_47 : decode cX5_cell 47 = .ok (.ireturn, 1) := by decide +kernel
theorem dX5_copy_0 : decode cX5_copy 0 = .ok (.aload_n 0, 1) := by decide +kernel
theorem dX5_copy_1 : decode cX5_copy 1 = .ok (.iload_n 1, 1) := by decide +kernel
theorem dX5_copy_2 : decode cX5_copy 2 = .ok (.invokevirtual 155, 3) := by decide +kernel
theorem dX5_copy_5 : decode cX5_copy 5 = .ok (.astore 6, 2) := by decide +kernel
theorem dX5_copy_7 : decode cX5_copy 7 = .ok (.aload_n 0, 1) := by decide +kernel
theorem dX5_copy_8 : decode cX5_copy 8 = .ok (.iload_n 3, 1) := by decide +kernel
theorem dX5_copy_9 : decode cX5_copy 9 = .ok (.invokevirtual 155, 3) := by decide +kernel
theorem dX5_copy_12 : decode cX5_copy 12 = .ok (.astore 7, 2) := by decide +kernel
theorem dX5_copy_14 : decode cX5_copy 14 = .ok (.aload 6, 2) := by decide +kernel
theorem dX5_copy_16 : decode cX5_copy 16 = .ok (.ifnull 8, 3) := by decide +kernel
theorem dX5_copy_19 : decode cX5_copy 19 = .ok (.aload 7, 2) := by decide +kernel
theorem dX5_copy_21 : decode cX5_copy 21 = .ok (.ifnonnull 6, 3) := by decide +kernel
theorem dX5_copy_24 : decode cX5_copy 24 = .ok (.bipush (-2), 2) := by decide +kernel
theorem dX5_copy_26 : decode cX5_copy 26 = .ok (.ireturn, 1) := by decide +kernel
theorem dX5_copy_27 : decode cX5_copy 27 = .ok (.aload 6, 2) := by decide +kernel
theorem dX5_copy_29 : decode cX5_copy 29 = .ok (.invokevirtual 159, 3) := by decide +kernel
theorem dX5_copy_32 : decode cX5_copy 32 = .ok (.ifCond .ne 11, 3) := by decide +kernel
theorem dX5_copy_35 : decode cX5_copy 35 = .ok (.aload 7, 2) := by decide +kernel
theorem dX5_copy_37 : decode cX5_copy 37 = .ok (.invokevirtual 159, 3) := by decide +kernel
theorem dX5_copy_40 : decode cX5_copy 40 = .ok (.ifCond .eq 6, 3) := by decide +kernel
theorem dX5_copy_43 : decode cX5_copy 43 = .ok (.bipush (-11), 2) := by decide +kernel
theorem dX5_copy_45 : decode cX5_copy 45 = .ok (.ireturn, 1) := by decide +kernel
theorem dX5_copy_46 : decode cX5_copy 46 = .ok (.aload 6, 2) := by decide +kernel
theorem dX5_copy_48 : decode cX5_copy 48 = .ok (.getfield 275, 3) := by decide +kernel
theorem dX5_copy_51 : decode cX5_copy 51 = .ok (.aload 7, 2) := by decide +kernel
theorem dX5_copy_53 : decode cX5_copy 53 = .ok (.getfield 275, 3) := by decide +kernel
theorem dX5_copy_56 : decode cX5_copy 56 = .ok (.if_icmp .eq 6, 3) := by decide +kernel
theorem dX5_copy_59 : decode cX5_copy 59 = .ok (.bipush (-13), 2) := by decide +kernel
theorem dX5_copy_61 : decode cX5_copy 61 = .ok (.ireturn, 1) := by decide +kernel
theorem dX5_copy_62 : decode cX5_copy 62 = .ok (.aload 6, 2) := by decide +kernel
theorem dX5_copy_64 : decode cX5_copy 64 = .ok (.iload_n 2, 1) := by decide +kernel
theorem dX5_copy_65 : decode cX5_copy 65 = .ok (.iload 5, 2) := by decide +kernel
theorem dX5_copy_67 : decode cX5_copy 67 = .ok (.invokevirtual 272, 3) := by decide +kernel
theorem dX5_copy_70 : decode cX5_copy 70 = .ok (.ifCond .eq 15, 3) := by decide +kernel
theorem dX5_copy_73 : decode cX5_copy 73 = .ok (.aload 7, 2) := by decide +kernel
theorem dX5_copy_75 : decode cX5_copy 75 = .ok (.iload 4, 2) := by decide +kernel
theorem dX5_copy_77 : decode cX5_copy 77 = .ok (.iload 5, 2) := by decide +kernel
theorem dX5_copy_79 : decode cX5_copy 79 = .ok (.invokevirtual 272, 3) := by decide +kernel
theorem dX5_copy_82 : decode cX5_copy 82 = .ok (.ifCond .ne 6, 3) := by decide +kernel
theorem dX5_copy_85 : decode cX5_copy 85 = .ok (.bipush (-12), 2) := by decide +kernel
theorem dX5_copy_87 : decode cX5_copy 87 = .ok (.ireturn, 1) := by decide +kernel
theorem dX5_copy_88 : decode cX5_copy 88 = .ok (.aload 6, 2) := by decide +kernel
theorem dX5_copy_90 : decode cX5_copy 90 = .ok (.getfield 278, 3) := by decide +kernel
theorem dX5_copy_93 : decode cX5_copy 93 = .ok (.iload_n 2, 1) := by decide +kernel
theorem dX5_copy_94 : decode cX5_copy 94 = .ok (.aload 7, 2) := by decide +kernel
theorem dX5_copy_96 : decode cX5_copy 96 = .ok (.getfield 278, 3) := by decide +kernel
theorem dX5_copy_99 : decode cX5_copy 99 = .ok (.iload 4, 2) := by decide +kernel
theorem dX5_copy_101 : decode cX5_copy 101 = .ok (.iload 5, 2) := by decide +kernel
theorem dX5_copy_103 : decode cX5_copy 103 = .ok (.invokestatic 281, 3) := by decide +kernel
theorem dX5_copy_106 : decode cX5_copy 106 = .ok (.iload 5, 2) := by decide +kernel
theorem dX5_copy_108 : decode cX5_copy 108 = .ok (.ireturn, 1) := by decide +kernel
theorem dX5_players_0 : decode cX5_players 0 = .ok (.aload_n 0, 1) := by decide +kernel
theorem dX5_players_1 : decode cX5_players 1 = .ok (.iload_n 1, 1) := by decide +kernel
theorem dX5_players_2 : decode cX5_players 2 = .ok (.invokevirtual 155, 3) := by decide +kernel
theorem dX5_players_5 : decode cX5_players 5 = .ok (.astore 5, 2) := by decide +kernel
theorem dX5_players_7 : decode cX5_players 7 = .ok (.aload 5, 2) := by decide +kernel
theorem dX5_players_9 : decode cX5_players 9 = .ok (.ifnull 23, 3) := by decide +kernel
theorem dX5_players_12 : decode cX5_players 12 = .ok (.iload_n 2, 1) := by decide +kernel
theorem dX5_players_13 : decode cX5_players 13 = .ok (.iconst 0, 1) := by decide +kernel
theorem dX5_players_14 : decode cX5_players 14 = .ok (.iconst 2, 1) := by decide +kernel
theorem dX5_players_15 : decode cX5_players 15 = .ok (.invokestatic 82, 3) := by decide +kernel
theorem dX5_players_18 : decode cX5_players 18 = .ok (.ifCond .eq 14, 3) := by decide +kernel
theorem dX5_players_21 : decode cX5_players 21 = .ok (.iload 4, 2) := by decide +kernel
theorem dX5_players_23 : decode cX5_players 23 = .ok (.iconst 0, 1) := by decide +kernel
theorem dX5_players_24 : decode cX5_players 24 = .ok (.bipush 6, 2) := by decide +kernel
theorem dX5_players_26 : decode cX5_players 26 = .ok (.invokestatic 82, 3) := by decide +kernel
theorem dX5_players_29 : decode cX5_players 29 = .ok (.ifCond .ne 6, 3) := by decide +kernel
theorem dX5_players_32 : decode cX5_players 32 = .ok (.bipush (-2), 2) := by decide +kernel
theorem dX5_players_34 : decode cX5_players 34 = .ok (.ireturn, 1) := by decide +kernel
theorem dX5_players_35 : decode cX5_players 35 = .ok (.aload 5, 2) := by decide +kernel
theorem dX5_players_37 : decode cX5_players 37 = .ok (.invokevirtual 159, 3) := by decide +kernel
theorem dX5_players_40 : decode cX5_players 40 = .ok (.ifCond .eq 6, 3) := by decide +kernel
theorem dX5_players_43 : decode cX5_players 43 = .ok (.bipush (-11), 2) := by decide +kernel
theorem dX5_players_45 : decode cX5_players 45 = .ok (.ireturn, 1) := by decide +kernel
theorem dX5_players_46 : decode cX5_players 46 = .ok (.aload 5, 2) := by decide +kernel
theorem dX5_players_48 : decode cX5_players 48 = .ok (.getfield 275, 3) := by decide +kernel
theorem dX5_players_51 : decode cX5_players 51 = .ok (.iload_n 2, 1) := by decide +kernel
theorem dX5_players_52 : decode cX5_players 52 = .ok (.if_icmp .eq 6, 3) := by decide +kernel
theorem dX5_players_55 : decode cX5_players 55 = .ok (.bipush (-13), 2) := by decide +kernel
theorem dX5_players_57 : decode cX5_players 57 = .ok (.ireturn, 1) := by decide +kernel
theorem dX5_players_58 : decode cX5_players 58 = .ok (.iconst 0, 1) := by decide +kernel
theorem dX5_players_59 : decode cX5_players 59 = .ok (.istore 6, 2) := by decide +kernel
theorem dX5_players_61 : decode cX5_players 61 = .ok (.iconst 0, 1) := by decide +kernel
theorem dX5_players_62 : decode cX5_players 62 = .ok (.istore 7, 2) := by decide +kernel
theorem dX5_players_64 : decode cX5_players 64 = .ok (.iload 7, 2) := by decide +kernel
theorem dX5_players_66 : decode cX5_players 66 = .ok (.iload 4, 2) := by decide +kernel
theorem dX5_players_68 : decode cX5_players 68 = .ok (.if_icmp .ge 60, 3) := by decide +kernel
theorem dX5_players_71 : decode cX5_players 71 = .ok (.iload_n 3, 1) := by decide +kernel
theorem dX5_players_72 : decode cX5_players 72 = .ok (.iconst 2, 1) := by decide +kernel
theorem dX5_players_73 : decode cX5_players 73 = .ok (.iload 7, 2) := by decide +kernel
theorem dX5_players_75 : decode cX5_players 75 = .ok (.imul, 1) := by decide +kernel
theorem dX5_players_76 : decode cX5_players 76 = .ok (.iadd, 1) := by decide +kernel
theorem dX5_players_77 : decode cX5_players 77 = .ok (.istore 8, 2) := by decide +kernel
theorem dX5_players_79 : decode cX5_players 79 = .ok (.aload 5, 2) := by decide +kernel
theorem dX5_players_81 : decode cX5_players 81 = .ok (.iload 8, 2) := by decide +kernel
theorem dX5_players_83 : decode cX5_players 83 = .ok (.iconst 2, 1) := by decide +kernel
theorem dX5_players_84 : decode cX5_players 84 = .ok (.invokevirtual 272, 3) := by decide +kernel
theorem dX5_players_87 : decode cX5_players 87 = .ok (.ifCond .ne 6, 3) := by decide +kernel
theorem dX5_players_90 : decode cX5_players 90 = .ok (.bipush (-12), 2) := by decide +kernel
theorem dX5_players_92 : decode cX5_players 92 = .ok (.ireturn, 1) := by decide +kernel
theorem dX5_players_93 : decode cX5_players 93 = .ok (.aload_n 0, 1) := by decide +kernel
theorem dX5_players_94 : decode cX5_players 94 = .ok (.getfield 42, 3) := by decide +kernel
theorem dX5_players_97 : decode cX5_players 97 = .ok (.aload 5, 2) := by decide +kernel
theorem dX5_players_99 : decode cX5_players 99 = .ok (.iload 8, 2) := by decide +kernel
theorem dX5_players_101 : decode cX5_players 101 = .ok (.invokevirtual 179, 3) := by decide +kernel
theorem dX5_players_104 : decode cX5_players 104 = .ok (.aload 5, 2) := by decide +kernel
theorem dX5_players_106 : decode cX5_players 106 = .ok (.iload 8, 2) := by decide +kernel
theorem dX5_players_108 : decode cX5_players 108 = .ok (.iconst 1, 1) := by decide +kernel
theorem dX5_players_109 : decode cX5_players 109 = .ok (.iadd, 1) := by decide +kernel
theorem dX5_players_110 : decode cX5_players 110 = .ok (.invokevirtual 179, 3) := by decide +kernel
theorem dX5_players_113 : decode cX5_players 113 = .ok (.invokevirtual 101, 3) := by decide +kernel
theorem dX5_players_116 : decode cX5_players 116 = .ok (.ifCond .lt 6, 3) := by decide +kernel
theorem dX5_players_119 : decode cX5_players 119 = .ok (.iinc 6 1, 3) := by decide +kernel
theorem dX5_players_122 : decode cX5_players 122 = .ok (.iinc 7 1, 3) := by decide +kernel
theorem dX5_players_125 : decode cX5_players 125 = .ok (.goto (-61), 3) := by decide +kernel
theorem dX5_players_128 : decode cX5_players 128 = .ok (.iload 6, 2) := by decide +kernel
theorem dX5_players_130 : decode cX5_players 130 = .ok (.ireturn, 1) := by decide +kernel
theorem dX5_taken_0 : decode cX5_taken 0 = .ok (.iload_n 2, 1) := by decide +kernel
theorem dX5_taken_1 : decode cX5_taken 1 = .ok (.iconst 0, 1) := by decide +kernel
theorem dX5_taken_2 : decode cX5_taken 2 = .ok (.iconst 5, 1) := by decide +kernel
theorem dX5_taken_3 : decode cX5_taken 3 = .ok (.invokestatic 82, 3) := by decide +kernel
theorem dX5_taken_6 : decode cX5_taken 6 = .ok (.ifCond .ne 6, 3) := by decide +kernel
theorem dX5_taken_9 : decode cX5_taken 9 = .ok (.bipush (-2), 2) := by decide +kernel
theorem dX5_taken_11 : decode cX5_taken 11 = .ok (.ireturn, 1) := by decide +kernel
theorem dX5_taken_12 : decode cX5_taken 12 = .ok (.aload_n 0, 1) := by decide +kernel
theorem dX5_taken_13 : decode cX5_taken 13 = .ok (.getfield 42, 3) := by decide +kernel
theorem dX5_taken_16 : decode cX5_taken 16 = .ok (.iload_n 1, 1) := by decide +kernel
theorem dX5_taken_17 : decode cX5_taken 17 = .ok (.invokevirtual 90, 3) := by decide +kernel
theorem dX5_taken_20 : decode cX5_taken 20 = .ok (.ifCond .ne 6, 3) := by decide +kernel
theorem dX5_taken_23 : decode cX5_taken 23 = .ok (.bipush (-11), 2) := by decide +kernel
theorem dX5_taken_25 : decode cX5_taken 25 = .ok (.ireturn, 1) := by decide +kernel
theorem dX5_taken_26 : decode cX5_taken 26 = .ok (.aload_n 0, 1) := by decide +kernel
theorem dX5_taken_27 : decode cX5_taken 27 = .ok (.getfield 42, 3) := by decide +kernel
theorem dX5_taken_30 : decode cX5_taken 30 = .ok (.getfield 104, 3) := by decide +kernel
theorem dX5_taken_33 : decode cX5_taken 33 = .ok (.iload_n 1, 1) := by decide +kernel
theorem dX5_taken_34 : decode cX5_taken 34 = .ok (.iaload, 1) := by decide +kernel
theorem dX5_taken_35 : decode cX5_taken 35 = .ok (.iload_n 2, 1) := by decide +kernel
theorem dX5_taken_36 : decode cX5_taken 36 = .ok (.invokestatic 287, 3) := by decide +kernel
theorem dX5_taken_39 : decode cX5_taken 39 = .ok (.ifCond .eq 15, 3) := by decide +kernel
theorem dX5_taken_42 : decode cX5_taken 42 = .ok (.aload_n 0, 1) := by decide +kernel
theorem dX5_taken_43 : decode cX5_taken 43 = .ok (.getfield 42, 3) := by decide +kernel
theorem dX5_taken_46 : decode cX5_taken 46 = .ok (.getfield 71, 3) := by decide +kernel
theorem dX5_taken_49 : decode cX5_taken 49 = .ok (.iload_n 1, 1) := by decide +kernel
theorem dX5_taken_50 : decode cX5_taken 50 = .ok (.iaload, 1) := by decide +kernel
theorem dX5_taken_51 : decode cX5_taken 51 = .ok (.goto 5, 3) := by decide +kernel
theorem dX5_taken_54 : decode cX5_taken 54 = .ok (.bipush (-13), 2) := by decide +kernel
theorem dX5_taken_56 : decode cX5_taken 56 = .ok (.ireturn, 1) := by decide +kernel
theorem dX5_sheetAt_0 : decode cX5_sheetAt 0 = .ok (.iload_n 1, 1) := by decide +kernel
theorem dX5_sheetAt_1 : decode cX5_sheetAt 1 = .ok (.ifCond .lt 21, 3) := by decide +kernel
theorem dX5_sheetAt_4 : decode cX5_sheetAt 4 = .ok (.iload_n 1, 1) := by decide +kernel
theorem dX5_sheetAt_5 : decode cX5_sheetAt 5 = .ok (.aload_n 0, 1) := by decide +kernel
theorem dX5_sheetAt_6 : decode cX5_sheetAt 6 = .ok (.getfield 58, 3) := by decide +kernel
theorem dX5_sheetAt_9 : decode cX5_sheetAt 9 = .ok (.arraylength, 1) := by decide +kernel
theorem dX5_sheetAt_10 : decode cX5_sheetAt 10 = .ok (.if_icmp .ge 12, 3) := by decide +kernel
theorem dX5_sheetAt_13 : decode cX5_sheetAt 13 = .ok (.aload_n 0, 1) := by decide +kernel
theorem dX5_sheetAt_14 : decode cX5_sheetAt 14 = .ok (.getfield 58, 3) := by decide +kernel
theorem dX5_sheetAt_17 : decode cX5_sheetAt 17 = .ok (.iload_n 1, 1) := by decide +kernel
theorem dX5_sheetAt_18 : decode cX5_sheetAt 18 = .ok (.aaload, 1) := by decide +kernel
theorem dX5_sheetAt_19 : decode cX5_sheetAt 19 = .ok (.goto 4, 3) := by decide +kernel
theorem dX5_sheetAt_22 : decode cX5_sheetAt 22 = .ok (.aconst_null, 1) := by decide +kernel
theorem dX5_sheetAt_23 : decode cX5_sheetAt 23 = .ok (.areturn, 1) := by decide +kernel
theorem dX5_think_0 : decode cX5_think 0 = .ok (.aload_n 0, 1) := by decide +kernel
theorem dX5_think_1 : decode cX5_think 1 = .ok (.getfield 49, 3) := by decide +kernel
theorem dX5_think_4 : decode cX5_think 4 = .ok (.aload_n 0, 1) := by decide +kernel
theorem dX5_think_5 : decode cX5_think 5 = .ok (.getfield 42, 3) := by decide +kernel
theorem dX5_think_8 : decode cX5_think 8 = .ok (.invokevirtual 264, 3) := by decide +kernel
theorem dX5_think_11 : decode cX5_think 11 = .ok (.aload_n 0, 1) := by decide +kernel
theorem dX5_think_12 : decode cX5_think 12 = .ok (.getfield 49, 3) := by decide +kernel
theorem dX5_think_15 : decode cX5_think 15 = .ok (.areturn, 1) := by decide +kernel
theorem dX5_thinkOn_0 : decode cX5_thinkOn 0 = .ok (.iload_n 2, 1) := by decide +kernel
theorem dX5_thinkOn_1 : decode cX5_thinkOn 1 = .ok (.ifCond .lt 15, 3) := by decide +kernel
theorem dX5_thinkOn_4 : decode cX5_thinkOn 4 = .ok (.iload_n 2, 1) := by decide +kernel
theorem dX5_thinkOn_5 : decode cX5_thinkOn 5 = .ok (.aload_n 1, 1) := by decide +kernel
theorem dX5_thinkOn_6 : decode cX5_thinkOn 6 = .ok (.arraylength, 1) := by decide +kernel
theorem dX5_thinkOn_7 : decode cX5_thinkOn 7 = .ok (.if_icmp .ge 9, 3) := by decide +kernel
theorem dX5_thinkOn_10 : decode cX5_thinkOn 10 = .ok (.aload_n 1, 1) := by decide +kernel
theorem dX5_thinkOn_11 : decode cX5_thinkOn 11 = .ok (.iload_n 2, 1) := by decide +kernel
theorem dX5_thinkOn_12 : decode cX5_thinkOn 12 = .ok (.aaload, 1) := by decide +kernel
theorem dX5_thinkOn_13 : decode cX5_thinkOn 13 = .ok (.goto 4, 3) := by decide +kernel
theorem dX5_thinkOn_16 : decode cX5_thinkOn 16 = .ok (.aconst_null, 1) := by decide +kernel
theorem dX5_thinkOn_17 : decode cX5_thinkOn 17 = .ok (.astore_n 3, 1) := by decide +kernel
theorem dX5_thinkOn_18 : decode cX5_thinkOn 18 = .ok (.aload_n 3, 1) := by decide +kernel
theorem dX5_thinkOn_19 : decode cX5_thinkOn 19 = .ok (.ifnull 8, 3) := by decide +kernel
theorem dX5_thinkOn_22 : decode cX5_thinkOn 22 = .ok (.aload_n 3, 1) := by decide +kernel
theorem dX5_thinkOn_23 : decode cX5_thinkOn 23 = .ok (.aload_n 0, 1) := by decide +kernel
theorem dX5_thinkOn_24 : decode cX5_thinkOn 24 = .ok (.invokevirtual 264, 3) := by decide +kernel
theorem dX5_thinkOn_27 : decode cX5_thinkOn 27 = .ok (.aload_n 3, 1) := by decide +kernel
theorem dX5_thinkOn_28 : decode cX5_thinkOn 28 = .ok (.areturn, 1) := by decide +kernel
theorem dX5_isWithin_0 : decode cX5_isWithin 0 = .ok (.iload_n 0, 1) := by decide +kernel
theorem dX5_isWithin_1 : decode cX5_isWithin 1 = .ok (.iload_n 1, 1) := by decide +kernel
theorem dX5_isWithin_2 : decode cX5_isWithin 2 = .ok (.if_icmp .lt 12, 3) := by decide +kernel
theorem dX5_isWithin_5 : decode cX5_isWithin 5 = .ok (.iload_n 0, 1) := by decide +kernel
theorem dX5_isWithin_6 : decode cX5_isWithin 6 = .ok (.iload_n 2, 1) := by decide +kernel
theorem dX5_isWithin_7 : decode cX5_isWithin 7 = .ok (.if_icmp .gt 7, 3) := by decide +kernel
theorem dX5_isWithin_10 : decode cX5_isWithin 10 = .ok (.iconst 1, 1) := by decide +kernel
theorem dX5_isWithin_11 : decode cX5_isWithin 11 = .ok (.goto 4, 3) := by decide +kernel
theorem dX5_isWithin_14 : decode cX5_isWithin 14 = .ok (.iconst 0, 1) := by decide +kernel
theorem dX5_isWithin_15 : decode cX5_isWithin 15 = .ok (.ireturn, 1) := by decide +kernel
theorem dX5_bounded_0 : decode cX5_bounded 0 = .ok (.iload_n 0, 1) := by decide +kernel
theorem dX5_bounded_1 : decode cX5_bounded 1 = .ok (.iload_n 1, 1) := by decide +kernel
theorem dX5_bounded_2 : decode cX5_bounded 2 = .ok (.if_icmp .ge 7, 3) := by decide +kernel
theorem dX5_bounded_5 : decode cX5_bounded 5 = .ok (.iload_n 1, 1) := by decide +kernel
theorem dX5_bounded_6 : decode cX5_bounded 6 = .ok (.goto 13, 3) := by decide +kernel
theorem dX5_bounded_9 : decode cX5_bounded 9 = .ok (.iload_n 0, 1) := by decide +kernel
theorem dX5_bounded_10 : decode cX5_bounded 10 = .ok (.iload_n 2, 1) := by decide +kernel
theorem dX5_bounded_11 : decode cX5_bounded 11 = .ok (.if_icmp .le 7, 3) := by decide +kernel
theorem dX5_bounded_14 : decode cX5_bounded 14 = .ok (.iload_n 2, 1) := by decide +kernel
theorem dX5_bounded_15 : decode cX5_bounded 15 = .ok (.goto 4, 3) := by decide +kernel
theorem dX5_bounded_18 : decode cX5_bounded 18 = .ok (.iload_n 0, 1) := by decide +kernel
theorem dX5_bounded_19 : decode cX5_bounded 19 = .ok (.ireturn, 1) := by decide +kernel
theorem dX5_kindAbove_0 : decode cX5_kindAbove 0 = .ok (.iload_n 0, 1) := by decide +kernel
theorem dX5_kindAbove_1 : decode cX5_kindAbove 1 = .ok (.tableswitch 41 1 5 #[35, 35, 37, 39, 35], 35) := by decide +kernel
theorem dX5_kindAbove_36 : decode cX5_kindAbove 36 = .ok (.iconst 0, 1) := by decide +kernel
theorem dX5_kindAbove_37 : decode cX5_kindAbove 37 = .ok (.ireturn, 1) := by decide +kernel
theorem dX5_kindAbove_38 : decode cX5_kindAbove 38 = .ok (.iconst 1, 1) := by decide +kernel
theorem dX5_kindAbove_39 : decode cX5_kindAbove 39 = .ok (.ireturn, 1) := by decide +kernel
theorem dX5_kindAbove_40 : decode cX5_kindAbove 40 = .ok (.iconst 2, 1) := by decide +kernel
theorem dX5_kindAbove_41 : decode cX5_kindAbove 41 = .ok (.ireturn, 1) := by decide +kernel
theorem dX5_kindAbove_42 : decode cX5_kindAbove 42 = .ok (.iconst (-1), 1) := by decide +kernel
theorem dX5_kindAbove_43 : decode cX5_kindAbove 43 = .ok (.ireturn, 1) := by decide +kernel
theorem dX5_isOfKind_0 : decode cX5_isOfKind 0 = .ok (.iload_n 0, 1) := by decide +kernel
theorem dX5_isOfKind_1 : decode cX5_isOfKind 1 = .ok (.istore_n 2, 1) := by decide +kernel
theorem dX5_isOfKind_2 : decode cX5_isOfKind 2 = .ok (.iconst 0, 1) := by decide +kernel
theorem dX5_isOfKind_3 : decode cX5_isOfKind 3 = .ok (.istore_n 3, 1) := by decide +kernel
theorem dX5_isOfKind_4 : decode cX5_isOfKind 4 = .ok (.iload_n 3, 1) := by decide +kernel
theorem dX5_isOfKind_5 : decode cX5_isOfKind 5 = .ok (.bipush 6, 2) := by decide +kernel
theorem dX5_isOfKind_7 : decode cX5_isOfKind 7 = .ok (.if_icmp .ge 26, 3) := by decide +kernel
theorem dX5_isOfKind_10 : decode cX5_isOfKind 10 = .ok (.iload_n 2, 1) := by decide +kernel
theorem dX5_isOfKind_11 : decode cX5_isOfKind 11 = .ok (.iconst (-1), 1) := by decide +kernel
theorem dX5_isOfKind_12 : decode cX5_isOfKind 12 = .ok (.if_icmp .eq 21, 3) := by decide +kernel
theorem dX5_isOfKind_15 : decode cX5_isOfKind 15 = .ok (.iload_n 2, 1) := by decide +kernel
theorem dX5_isOfKind_16 : decode cX5_isOfKind 16 = .ok (.iload_n 1, 1) := by decide +kernel
theorem dX5_isOfKind_17 : decode cX5_isOfKind 17 = .ok (.if_icmp .ne 5, 3) := by decide +kernel
theorem dX5_isOfKind_20 : decode cX5_isOfKind 20 = .ok (.iconst 1, 1) := by decide +kernel
theorem dX5_isOfKind_21 : decode cX5_isOfKind 21 = .ok (.ireturn, 1) := by decide +kernel
theorem dX5_isOfKind_22 : decode cX5_isOfKind 22 = .ok (.iload_n 2, 1) := by decide +kernel
theorem dX5_isOfKind_23 : decode cX5_isOfKind 23 = .ok (.invokestatic 290, 3) := by decide +kernel
theorem dX5_isOfKind_26 : decode cX5_isOfKind 26 = .ok (.istore_n 2, 1) := by decide +kernel
theorem dX5_isOfKind_27 : decode cX5_isOfKind 27 = .ok (.iinc 3 1, 3) := by decide +kernel
theorem dX5_isOfKind_30 : decode cX5_isOfKind 30 = .ok (.goto (-26), 3) := by decide +kernel
theorem dX5_isOfKind_33 : decode cX5_isOfKind 33 = .ok (.iconst 0, 1) := by decide +kernel
theorem dX5_isOfKind_34 : decode cX5_isOfKind 34 = .ok (.ireturn, 1) := by decide +kernel
