theorem dM_close_17 : decode cM_close 17 = .ok (.iconst 0, 1) := by decide +kernel
theorem dM_close_18 : decode cM_close 18 = .ok (.istore_n 2, 1) := by decide +kernel
theorem dM_close_19 : decode cM_close 19 = .ok (.iload_n 2, 1) := by decide +kernel
theorem dM_close_20 : decode cM_close 20 = .ok (.aload_n 0, 1) := by decide +kernel
theorem dM_close_21 : decode cM_close 21 = .ok (.getfield 50, 3) := by decide +kernel
theorem dM_close_24 : decode cM_close 24 = .ok (.if_icmp .ge 52, 3) := by decide +kernel
theorem dM_close_27 : decode cM_close 27 = .ok (.aload_n 0, 1) := by decide +kernel
theorem dM_close_28 : decode cM_close 28 = .ok (.getfield 19, 3) := by decide +kernel
theorem dM_close_31 : decode cM_close 31 = .ok (.iload_n 2, 1) := by decide +kernel
theorem dM_close_32 : decode cM_close 32 = .ok (.aload_n 0, 1) := by decide +kernel
theorem dM_close_33 : decode cM_close 33 = .ok (.getfield 19, 3) := by decide +kernel
theorem dM_close_36 : decode cM_close 36 = .ok (.iload_n 2, 1) := by decide +kernel
theorem dM_close_37 : decode cM_close 37 = .ok (.baload, 1) := by decide +kernel
theorem dM_close_38 : decode cM_close 38 = .ok (.ifCond .eq 30, 3) := by decide +kernel
theorem dM_close_41 : decode cM_close 41 = .ok (.aload_n 0, 1) := by decide +kernel
theorem dM_close_42 : decode cM_close 42 = .ok (.getfield 29, 3) := by decide +kernel
theorem dM_close_45 : decode cM_close 45 = .ok (.iload_n 2, 1) := by decide +kernel
theorem dM_close_46 : decode cM_close 46 = .ok (.iaload, 1) := by decide +kernel
theorem dM_close_47 : decode cM_close 47 = .ok (.iconst 1, 1) := by decide +kernel
theorem dM_close_48 : decode cM_close 48 = .ok (.invokestatic 42, 3) := by decide +kernel
theorem dM_close_51 : decode cM_close 51 = .ok (.ifCond .ne 13, 3) := by decide +kernel
theorem dM_close_54 : decode cM_close 54 = .ok (.aload_n 0, 1) := by decide +kernel
theorem dM_close_55 : decode cM_close 55 = .ok (.getfield 26, 3) := by decide +kernel
theorem dM_close_58 : decode cM_close 58 = .ok (.iload_n 2, 1) := by decide +kernel
theorem dM_close_59 : decode cM_close 59 = .ok (.iaload, 1) := by decide +kernel
theorem dM_close_60 : decode cM_close 60 = .ok (.iload_n 1, 1) := by decide +kernel
theorem dM_close_61 : decode cM_close 61 = .ok (.if_icmp .eq 7, 3) := by decide +kernel
theorem dM_close_64 : decode cM_close 64 = .ok (.iconst 1, 1) := by decide +kernel
theorem dM_close_65 : decode cM_close 65 = .ok (.goto 4, 3) := by decide +kernel
theorem dM_close_68 : decode cM_close 68 = .ok (.iconst 0, 1) := by decide +kernel
theorem dM_close_69 : decode cM_close 69 = .ok (.bastore, 1) := by decide +kernel
theorem dM_close_70 : decode cM_close 70 = .ok (.iinc 2 1, 3) := by decide +kernel
theorem dM_close_73 : decode cM_close 73 = .ok (.goto (-54), 3) := by decide +kernel
theorem dM_close_76 : decode cM_close 76 = .ok (.aload_n 0, 1) := by decide +kernel
theorem dM_close_77 : decode cM_close 77 = .ok (.aload_n 0, 1) := by decide +kernel
theorem dM_close_78 : decode cM_close 78 = .ok (.getfield 7, 3) := by decide +kernel
theorem dM_close_81 : decode cM_close 81 = .ok (.iconst 0, 1) := by decide +kernel
theorem dM_close_82 : decode cM_close 82 = .ok (.iaload, 1) := by decide +kernel
theorem dM_close_83 : decode cM_close 83 = .ok (.aload_n 0, 1) := by decide +kernel
theorem dM_close_84 : decode cM_close 84 = .ok (.getfield 7, 3) := by decide +kernel
theorem dM_close_87 : decode cM_close 87 = .ok (.iconst 1, 1) := by decide +kernel
theorem dM_close_88 : decode cM_close 88 = .ok (.iaload, 1) := by decide +kernel
theorem dM_close_89 : decode cM_close 89 = .ok (.iadd, 1) := by decide +kernel
theorem dM_close_90 : decode cM_close 90 = .ok (.aload_n 0, 1) := by decide +kernel
theorem dM_close_91 : decode cM_close 91 = .ok (.getfield 7, 3) := by decide +kernel
theorem dM_close_94 : decode cM_close 94 = .ok (.iconst 2, 1) := by decide +kernel
theorem dM_close_95 : decode cM_close 95 = .ok (.iaload, 1) := by decide +kernel
theorem dM_close_96 : decode cM_close 96 = .ok (.iadd, 1) := by decide +kernel
theorem dM_close_97 : decode cM_close 97 = .ok (.ifCond .ne 7, 3) := by decide +kernel
theorem dM_close_100 : decode cM_close 100 = .ok (.iconst 0, 1) := by decide +kernel
theorem dM_close_101 : decode cM_close 101 = .ok (.goto 7, 3) := by decide +kernel
theorem dM_close_104 : decode cM_close 104 = .ok (.aload_n 0, 1) := by decide +kernel
theorem dM_close_105 : decode cM_close 105 = .ok (.getfield 46, 3) := by decide +kernel
theorem dM_close_108 : decode cM_close 108 = .ok (.putfield 46, 3) := by decide +kernel
theorem dM_close_111 : decode cM_close 111 = .ok (.iconst 0, 1) := by decide +kernel
theorem dM_close_112 : decode cM_close 112 = .ok (.ireturn, 1) := by decide +kernel
theorem dM_login_0 : decode cM_login 0 = .ok (.iload_n 2, 1) := by decide +kernel
theorem dM_login_1 : decode cM_login 1 = .ok (.ifCond .eq 7, 3) := by decide +kernel
theorem dM_login_4 : decode cM_login 4 = .ok (.iconst 2, 1) := by decide +kernel
theorem dM_login_5 : decode cM_login 5 = .ok (.goto 4, 3) := by decide +kernel
theorem dM_login_8 : decode cM_login 8 = .ok (.iconst 1, 1) := by decide +kernel
theorem dM_login_9 : decode cM_login 9 = .ok (.istore 4, 2) := by decide +kernel
theorem dM_login_11 : decode cM_login 11 = .ok (.aload_n 0, 1) := by decide +kernel
theorem dM_login_12 : decode cM_login 12 = .ok (.iload_n 1, 1) := by decide +kernel
theorem dM_login_13 : decode cM_login 13 = .ok (.invokevirtual 67, 3) := by decide +kernel
theorem dM_login_16 : decode cM_login 16 = .ok (.ifCond .eq 5, 3) := by decide +kernel
theorem dM_login_19 : decode cM_login 19 = .ok (.iconst (-1), 1) := by decide +kernel
theorem dM_login_20 : decode cM_login 20 = .ok (.ireturn, 1) := by decide +kernel
theorem dM_login_21 : decode cM_login 21 = .ok (.aload_n 0, 1) := by decide +kernel
theorem dM_login_22 : decode cM_login 22 = .ok (.getfield 46, 3) := by decide +kernel
theorem dM_login_25 : decode cM_login 25 = .ok (.ifCond .le 6, 3) := by decide +kernel
theorem dM_login_28 : decode cM_login 28 = .ok (.bipush (-3), 2) := by decide +kernel
theorem dM_login_30 : decode cM_login 30 = .ok (.ireturn, 1) := by decide +kernel
theorem dM_login_31 : decode cM_login 31 = .ok (.iload_n 2, 1) := by decide +kernel
theorem dM_login_32 : decode cM_login 32 = .ok (.ifCond .eq 36, 3) := by decide +kernel
theorem dM_login_35 : decode cM_login 35 = .ok (.aload_n 0, 1) := by decide +kernel
theorem dM_login_36 : decode cM_login 36 = .ok (.getfield 7, 3) := by decide +kernel
theorem dM_login_39 : decode cM_login 39 = .ok (.iconst 0, 1) := by decide +kernel
theorem dM_login_40 : decode cM_login 40 = .ok (.iaload, 1) := by decide +kernel
theorem dM_login_41 : decode cM_login 41 = .ok (.iconst 1, 1) := by decide +kernel
theorem dM_login_42 : decode cM_login 42 = .ok (.if_icmp .eq 23, 3) := by decide +kernel
theorem dM_login_45 : decode cM_login 45 = .ok (.aload_n 0, 1) := by decide +kernel
theorem dM_login_46 : decode cM_login 46 = .ok (.getfield 7, 3) := by decide +kernel
theorem dM_login_49 : decode cM_login 49 = .ok (.iconst 1, 1) := by decide +kernel
theorem dM_login_50 : decode cM_login 50 = .ok (.iaload, 1) := by decide +kernel
theorem dM_login_51 : decode cM_login 51 = .ok (.iconst 1, 1) := by decide +kernel
theorem dM_login_52 : decode cM_login 52 = .ok (.if_icmp .eq 13, 3) := by decide +kernel
theorem dM_login_55 : decode cM_login 55 = .ok (.aload_n 0, 1) := by decide +kernel
theorem dM_login_56 : decode cM_login 56 = .ok (.getfield 7, 3) := by decide +kernel
theorem dM_login_59 : decode cM_login 59 = .ok (.iconst 2, 1) := by decide +kernel
theorem dM_login_60 : decode cM_login 60 = .ok (.iaload, 1) := by decide +kernel
theorem dM_login_61 : decode cM_login 61 = .ok (.iconst 1, 1) := by decide +kernel
theorem dM_login_62 : decode cM_login 62 = .ok (.if_icmp .ne 6, 3) := by decide +kernel
theorem dM_login_65 : decode cM_login 65 = .ok (.bipush (-4), 2) := by decide +kernel
theorem dM_login_67 : decode cM_login 67 = .ok (.ireturn, 1) := by decide +kernel
theorem dM_login_68 : decode cM_login 68 = .ok (.aload_n 0, 1) := by decide +kernel
theorem dM_login_69 : decode cM_login 69 = .ok (.getfield 16, 3) := by decide +kernel
theorem dM_login_72 : decode cM_login 72 = .ok (.iload 4, 2) := by decide +kernel
theorem dM_login_74 : decode cM_login 74 = .ok (.iaload, 1) := by decide +kernel
theorem dM_login_75 : decode cM_login 75 = .ok (.iconst 3, 1) := by decide +kernel
theorem dM_login_76 : decode cM_login 76 = .ok (.if_icmp .lt 6, 3) := by decide +kernel
theorem dM_login_79 : decode cM_login 79 = .ok (.bipush (-8), 2) := by decide +kernel
theorem dM_login_81 : decode cM_login 81 = .ok (.ireturn, 1) := by decide +kernel
theorem dM_login_82 : decode cM_login 82 = .ok (.aload_n 0, 1) := by decide +kernel
theorem dM_login_83 : decode cM_login 83 = .ok (.getfield 13, 3) := by decide +kernel
theorem dM_login_86 : decode cM_login 86 = .ok (.iload 4, 2) := by decide +kernel
theorem dM_login_88 : decode cM_login 88 = .ok (.iaload, 1) := by decide +kernel
theorem dM_login_89 : decode cM_login 89 = .ok (.iload_n 3, 1) := by decide +kernel
theorem dM_login_90 : decode cM_login 90 = .ok (.if_icmp .eq 22, 3) := by decide +kernel
theorem dM_login_93 : decode cM_login 93 = .ok (.aload_n 0, 1) := by decide +kernel
theorem dM_login_94 : decode cM_login 94 = .ok (.getfield 16, 3) := by decide +kernel
theorem dM_login_97 : decode cM_login 97 = .ok (.iload 4, 2) := by decide +kernel
theorem dM_login_99 : decode cM_login 99 = .ok (.aload_n 0, 1) := by decide +kernel
theorem dM_login_100 : decode cM_login 100 = .ok (.getfield 16, 3) := by decide +kernel
theorem dM_login_103 : decode cM_login 103 = .ok (.iload 4, 2) := by decide +kernel
theorem dM_login_105 : decode cM_login 105 = .ok (.iaload, 1) := by decide +kernel
theorem dM_login_106 : decode cM_login 106 = .ok (.iconst 1, 1) := by decide +kernel
theorem dM_login_107 : decode cM_login 107 = .ok (.iadd, 1) := by decide +kernel
theorem dM_login_108 : decode cM_login 108 = .ok (.iastore, 1) := by decide +kernel
theorem dM_login_109 : decode cM_login 109 = .ok (.bipush (-9), 2) := by decide +kernel
theorem dM_login_111 : decode cM_login 111 = .ok (.ireturn, 1) := by decide +kernel
theorem dM_login_112 : decode cM_login 112 = .ok (.aload_n 0, 1) := by decide +kernel
theorem dM_login_113 : decode cM_login 113 = .ok (.getfield 16, 3) := by decide +kernel
theorem dM_login_116 : decode cM_login 116 = .ok (.iload 4, 2) := by decide +kernel
theorem dM_login_118 : decode cM_login 118 = .ok (.iconst 0, 1) := by decide +kernel
theorem dM_login_119 : decode cM_login 119 = .ok (.iastore, 1) := by decide +kernel
theorem dM_login_120 : decode cM_login 120 = .ok (.aload_n 0, 1) := by decide +kernel
theorem dM_login_121 : decode cM_login 121 = .ok (.iload 4, 2) := by decide +kernel
theorem dM_login_123 : decode cM_login 123 = .ok (.putfield 46, 3) := by decide +kernel
theorem dM_login_126 : decode cM_login 126 = .ok (.iconst 0, 1) := by decide +kernel
theorem dM_login_127 : decode cM_login 127 = .ok (.ireturn, 1) := by decide +kernel
theorem dM_logout_0 : decode cM_logout 0 = .ok (.aload_n 0, 1) := by decide +kernel
theorem dM_logout_1 : decode cM_logout 1 = .ok (.iload_n 1, 1) := by decide +kernel
theorem dM_logout_2 : decode cM_logout 2 = .ok (.invokevirtual 67, 3) := by decide +kernel
theorem dM_logout_5 : decode cM_logout 5 = .ok (.ifCond .eq 5, 3) := by decide +kernel
theorem dM_logout_8 : decode cM_logout 8 = .ok (.iconst (-1), 1) := by decide +kernel
theorem dM_logout_9 : decode cM_logout 9 = .ok (.ireturn, 1) := by decide +kernel
theorem dM_logout_10 : decode cM_logout 10 = .ok (.aload_n 0, 1) := by decide +kernel
theorem dM_logout_11 : decode cM_logout 11 = .ok (.getfield 46, 3) := by decide +kernel
theorem dM_logout_14 : decode cM_logout 14 = .ok (.ifCond .ne 6, 3) := by decide +kernel
theorem dM_logout_17 : decode cM_logout 17 = .ok (.bipush (-3), 2) := by decide +kernel
theorem dM_logout_19 : decode cM_logout 19 = .ok (.ireturn, 1) := by decide +kernel
theorem dM_logout_20 : decode cM_logout 20 = .ok (.aload_n 0, 1) := by decide +kernel
theorem dM_logout_21 : decode cM_logout 21 = .ok (.iconst 0, 1) := by decide +kernel
theorem dM_logout_22 : decode cM_logout 22 = .ok (.putfield 46, 3) := by decide +kernel
theorem dM_logout_25 : decode cM_logout 25 = .ok (.iconst 0, 1) := by decide +kernel
theorem dM_logout_26 : decode cM_logout 26 = .ok (.istore_n 2, 1) := by decide +kernel
theorem dM_logout_27 : decode cM_logout 27 = .ok (.iload_n 2, 1) := by decide +kernel
theorem dM_logout_28 : decode cM_logout 28 = .ok (.aload_n 0, 1) := by decide +kernel
theorem dM_logout_29 : decode cM_logout 29 = .ok (.getfield 50, 3) := by decide +kernel
theorem dM_logout_32 : decode cM_logout 32 = .ok (.if_icmp .ge 55, 3) := by decide +kernel
theorem dM_logout_35 : decode cM_logout 35 = .ok (.aload_n 0, 1) := by decide +kernel
theorem dM_logout_36 : decode cM_logout 36 = .ok (.getfield 19, 3) := by decide +kernel
theorem dM_logout_39 : decode cM_logout 39 = .ok (.iload_n 2, 1) := by decide +kernel
theorem dM_logout_40 : decode cM_logout 40 = .ok (.aload_n 0, 1) := by decide +kernel
theorem dM_logout_41 : decode cM_logout 41 = .ok (.getfield 19, 3) := by decide +kernel
theorem dM_logout_44 : decode cM_logout 44 = .ok (.iload_n 2, 1) := by decide +kernel
theorem dM_logout_45 : decode cM_logout 45 = .ok (.baload, 1) := by decide +kernel
theorem dM_logout_46 : decode cM_logout 46 = .ok (.ifCond .eq 33, 3) := by decide +kernel
theorem dM_logout_49 : decode cM_logout 49 = .ok (.aload_n 0, 1) := by decide +kernel
theorem dM_logout_50 : decode cM_logout 50 = .ok (.getfield 29, 3) := by decide +kernel
theorem dM_logout_53 : decode cM_logout 53 = .ok (.iload_n 2, 1) := by decide +kernel
theorem dM_logout_54 : decode cM_logout 54 = .ok (.iaload, 1) := by decide +kernel
theorem dM_logout_55 : decode cM_logout 55 = .ok (.iconst 1, 1) := by decide +kernel
theorem dM_logout_56 : decode cM_logout 56 = .ok (.invokestatic 42, 3) := by decide +kernel
theorem dM_logout_59 : decode cM_logout 59 = .ok (.ifCond .ne 16, 3) := by decide +kernel
theorem dM_logout_62 : decode cM_logout 62 = .ok (.aload_n 0, 1) := by decide +kernel
theorem dM_logout_63 : decode cM_logout 63 = .ok (.getfield 29, 3) := by decide +kernel
theorem dM_logout_66 : decode cM_logout 66 = .ok (.iload_n 2, 1) := by decide +kernel
theorem dM_logout_67 : decode cM_logout 67 = .ok (.iaload, 1) := by decide +kernel
theorem dM_logout_68 : decode cM_logout 68 = .ok (.iconst 2, 1) := by decide +kernel
theorem dM_logout_69 : decode cM_logout 69 = .ok (.invokestatic 42, 3) := by decide +kernel
theorem dM_logout_72 : decode cM_logout 72 = .ok (.ifCond .ne 7, 3) := by decide +kernel
theorem dM_logout_75 : decode cM_logout 75 = .ok (.iconst 1, 1) := by decide +kernel
theorem dM_logout_76 : decode cM_logout 76 = .ok (.goto 4, 3) := by decide +kernel
theorem dM_logout_79 : decode cM_logout 79 = .ok (.iconst 0, 1) := by decide +kernel
theorem dM_logout_80 : decode cM_logout 80 = .ok (.bastore, 1) := by decide +kernel
theorem dM_logout_81 : decode cM_logout 81 = .ok (.iinc 2 1, 3) := by decide +kernel
theorem dM_logout_84 : decode cM_logout 84 = .ok (.goto (-57), 3) := by decide +kernel
theorem dM_logout_87 : decode cM_logout 87 = .ok (.iconst 0, 1) := by decide +kernel
theorem dM_logout_88 : decode cM_logout 88 = .ok (.ireturn, 1) := by decide +kernel
theorem dM_unlock_0 : decode cM_unlock 0 = .ok (.aload_n 0, 1) := by decide +kernel
theorem dM_unlock_1 : decode cM_unlock 1 = .ok (.iload_n 1, 1) := by decide +kernel
theorem dM_unlock_2 : decode cM_unlock 2 = .ok (.invokevirtual 67, 3) := by decide +kernel
theorem dM_unlock_5 : decode cM_unlock 5 = .ok (.ifCond .eq 5, 3) := by decide +kernel
theorem dM_unlock_8 : decode cM_unlock 8 = .ok (.iconst (-1), 1) := by decide +kernel
theorem dM_unlock_9 : decode cM_unlock 9 = .ok (.ireturn, 1) := by decide +kernel
theorem dM_unlock_10 : decode cM_unlock 10 = .ok (.aload_n 0, 1) := by decide +kernel
theorem dM_unlock_11 : decode cM_unlock 11 = .ok (.getfield 46, 3) := by decide +kernel
theorem dM_unlock_14 : decode cM_unlock 14 = .ok (.iconst 2, 1) := by decide +kernel
theorem dM_unlock_15 : decode cM_unlock 15 = .ok (.if_icmp .eq 6, 3) := by decide +kernel
theorem dM_unlock_18 : decode cM_unlock 18 = .ok (.bipush (-3), 2) := by decide +kernel
theorem dM_unlock_20 : decode cM_unlock 20 = .ok (.ireturn, 1) := by decide +kernel
theorem dM_unlock_21 : decode cM_unlock 21 = .ok (.aload_n 0, 1) := by decide +kernel
theorem dM_unlock_22 : decode cM_unlock 22 = .ok (.getfield 13, 3) := by decide +kernel
theorem dM_unlock_25 : decode cM_unlock 25 = .ok (.iconst 1, 1) := by decide +kernel
theorem dM_unlock_26 : decode cM_unlock 26 = .ok (.iload_n 2, 1) := by decide +kernel
theorem dM_unlock_27 : decode cM_unlock 27 = .ok (.iastore, 1) := by decide +kernel
theorem dM_unlock_28 : decode cM_unlock 28 = .ok (.aload_n 0, 1) := by decide +kernel
theorem dM_unlock_29 : decode cM_unlock 29 = .ok (.getfield 16, 3) := by decide +kernel
theorem dM_unlock_32 : decode cM_unlock 32 = .ok (.iconst 1, 1) := by decide +kernel
theorem dM_unlock_33 : decode cM_unlock 33 = .ok (.iconst 0, 1) := by decide +kernel
theorem dM_unlock_34 : decode cM_unlock 34 = .ok (.iastore, 1) := by decide +kernel
theorem dM_unlock_35 : decode cM_unlock 35 = .ok (.iconst 0, 1) := by decide +kernel
theorem dM_unlock_36 : decode cM_unlock 36 = .ok (.ireturn, 1) := by decide +kernel
theorem dM_create_0 : decode cM_create 0 = .ok (.aload_n 0, 1) := by decide +kernel
theorem dM_create_1 : decode cM_create 1 = .ok (.iload_n 1, 1) := by decide +kernel
theorem dM_create_2 : decode cM_create 2 = .ok (.invokevirtual 67, 3) := by decide +kernel
theorem dM_create_5 : decode cM_create 5 = .ok (.ifCond .eq 5, 3) := by decide +kernel
theorem dM_create_8 : decode cM_create 8 = .ok (.iconst (-1), 1) := by decide +kernel
theorem dM_create_9 : decode cM_create 9 = .ok (.ireturn, 1) := by decide +kernel
theorem dM_create_10 : decode cM_create 10 = .ok (.aload_n 0, 1) := by decide +kernel
theorem dM_create_11 : decode cM_create 11 = .ok (.iload_n 1, 1) := by decide +kernel
theorem dM_create_12 : decode cM_create 12 = .ok (.iload_n 2, 1) := by decide +kernel
theorem dM_create_13 : decode cM_create 13 = .ok (.iconst 0, 1) := by decide +kernel
theorem dM_create_14 : decode cM_create 14 = .ok (.invokevirtual 70, 3) := by decide +kernel
theorem dM_create_17 : decode cM_create 17 = .ok (.istore 4, 2) := by decide +kernel
theorem dM_create_19 : decode cM_create 19 = .ok (.iload 4, 2) := by decide +kernel
theorem dM_create_21 : decode cM_create 21 = .ok (.ifCond .ge 8, 3) := by decide +kernel
theorem dM_create_24 : decode cM_create 24 = .ok (.iload 4, 2) := by decide +kernel
theorem dM_create_26 : decode cM_create 26 = .ok (.goto 10, 3) := by decide +kernel
theorem dM_create_29 : decode cM_create 29 = .ok (.aload_n 0, 1) := by decide +kernel
theorem dM_create_30 : decode cM_create 30 = .ok (.iload_n 1, 1) := by decide +kernel
theorem dM_create_31 : decode cM_create 31 = .ok (.iload_n 2, 1) := by decide +kernel
theorem dM_create_32 : decode cM_create 32 = .ok (.iload_n 3, 1) := by decide +kernel
theorem dM_create_33 : decode cM_create 33 = .ok (.invokevirtual 74, 3) := by decide +kernel
theorem dM_create_36 : decode cM_create 36 = .ok (.ireturn, 1) := by decide +kernel
theorem dM_generate_0 : decode cM_generate 0 = .ok (.aload_n 0, 1) := by decide +kernel
theorem dM_generate_1 : decode cM_generate 1 = .ok (.iload_n 1, 1) := by decide +kernel
theorem dM_generate_2 : decode cM_generate 2 = .ok (.invokevirtual 67, 3) := by decide +kernel
theorem dM_generate_5 : decode cM_generate 5 = .ok (.ifCond .eq 5, 3) := by decide +kernel
theorem dM_generate_8 : decode cM_generate 8 = .ok (.iconst (-1), 1) := by decide +kernel
theorem dM_generate_9 : decode cM_generate 9 = .ok (.ireturn, 1) := by decide +kernel
theorem dM_generate_10 : decode cM_generate 10 = .ok (.aload_n 0, 1) := by decide +kernel
theorem dM_generate_11 : decode cM_generate 11 = .ok (.iload_n 1, 1) := by decide +kernel
theorem dM_generate_12 : decode cM_generate 12 = .ok (.iload_n 2, 1) := by decide +kernel
theorem dM_generate_13 : decode cM_generate 13 = .ok (.iconst 0, 1) := by decide +kernel
theorem dM_generate_14 : decode cM_generate 14 = .ok (.invokevirtual 70, 3) := by decide +kernel
theorem dM_generate_17 : decode cM_generate 17 = .ok (.istore_n 3, 1) := by decide +kernel
theorem dM_generate_18 : decode cM_generate 18 = .ok (.iload_n 3, 1) := by decide +kernel
theorem dM_generate_19 : decode cM_generate 19 = .ok (.ifCond .ge 5, 3) := by decide +kernel
theorem dM_generate_22 : decode cM_generate 22 = .ok (.iload_n 3, 1) := by decide +kernel
theorem dM_generate_23 : decode cM_generate 23 = .ok (.ireturn, 1) := by decide +kernel
theorem dM_generate_24 : decode cM_generate 24 = .ok (.sipush 1024, 3) := by decide +kernel
theorem dM_generate_27 : decode cM_generate 27 = .ok (.iload_n 2, 1) := by decide +kernel
theorem dM_generate_28 : decode cM_generate 28 = .ok (.iconst 4, 1) := by decide +kernel
theorem dM_generate_29 : decode cM_generate 29 = .ok (.invokestatic 42, 3) := by decide +kernel
theorem dM_generate_32 : decode cM_generate 32 = .ok (.ifCond .eq 9, 3) := by decide +kernel
theorem dM_generate_35 : decode cM_generate 35 = .ok (.sipush 2048, 3) := by decide +kernel
theorem dM_generate_38 : decode cM_generate 38 = .ok (.goto 4, 3) := by decide +kernel
theorem dM_generate_41 : decode cM_generate 41 = .ok (.iconst 0, 1) := by decide +kernel
theorem dM_generate_42 : decode cM_generate 42 = .ok (.iadd, 1) := by decide +kernel
theorem dM_generate_43 : decode cM_generate 43 = .ok (.iload_n 2, 1) := by decide +kernel
theorem dM_generate_44 : decode cM_generate 44 = .ok (.bipush 8, 2) := by decide +kernel
theorem dM_generate_46 : decode cM_generate 46 = .ok (.invokestatic 42, 3) := by decide +kernel
theorem dM_generate_49 : decode cM_generate 49 = .ok (.ifCond .eq 7, 3) := by decide +kernel
theorem dM_generate_52 : decode cM_generate 52 = .ok (.iconst 0, 1) := by decide +kernel
theorem dM_generate_53 : decode cM_generate 53 = .ok (.goto 6, 3) := by decide +kernel
theorem dM_generate_56 : decode cM_generate 56 = .ok (.sipush 4096, 3) := by decide +kernel
theorem dM_generate_59 : decode cM_generate 59 = .ok (.iadd, 1) := by decide +kernel
theorem dM_generate_60 : decode cM_generate 60 = .ok (.istore 4, 2) := by decide +kernel
theorem dM_generate_62 : decode cM_generate 62 = .ok (.aload_n 0, 1) := by decide +kernel
theorem dM_generate_63 : decode cM_generate 63 = .ok (.getfield 77, 3) := by decide +kernel
theorem dM_generate_66 : decode cM_generate 66 = .ok (.ldc 80, 2) := by decide +kernel
theorem dM_generate_68 : decode cM_generate 68 = .ok (.invokestatic 81, 3) := by decide +kernel
theorem dM_generate_71 : decode cM_generate 71 = .ok (.istore 5, 2) := by decide +kernel
theorem dM_generate_73 : decode cM_generate 73 = .ok (.aload_n 0, 1) := by decide +kernel
theorem dM_generate_74 : decode cM_generate 74 = .ok (.dup, 1) := by decide +kernel
theorem dM_generate_75 : decode cM_generate 75 = .ok (.getfield 77, 3) := by decide +kernel
theorem dM_generate_78 : decode cM_generate 78 = .ok (.iconst 1, 1) := by decide +kernel
theorem dM_generate_79 : decode cM_generate 79 = .ok (.iadd, 1) := by decide +kernel
theorem dM_generate_80 : decode cM_generate 80 = .ok (.putfield 77, 3) := by decide +kernel
theorem dM_generate_83 : decode cM_generate 83 = .ok (.aload_n 0, 1) := by decide +kernel
theorem dM_generate_84 : decode cM_generate 84 = .ok (.iload_n 1, 1) := by decide +kernel
theorem dM_generate_85 : decode cM_generate 85 = .ok (.iload_n 2, 1) := by decide +kernel
theorem dM_generate_86 : decode cM_generate 86 = .ok (.iload 4, 2) := by decide +kernel
theorem dM_generate_88 : decode cM_generate 88 = .ok (.iadd, 1) := by decide +kernel
theorem dM_generate_89 : decode cM_generate 89 = .ok (.iload 5, 2) := by decide +kernel
theorem dM_generate_91 : decode cM_generate 91 = .ok (.invokevirtual 74, 3) := by decide +kernel
theorem dM_generate_94 : decode cM_generate 94 = .ok (.ireturn, 1) := by decide +kernel
theorem dM_destroy_0 : decode cM_destroy 0 = .ok (.aload_n 0, 1) := by decide +kernel
theorem dM_destroy_1 : decode cM_destroy 1 = .ok (.iload_n 1, 1) := by decide +kernel
theorem dM_destroy_2 : decode cM_destroy 2 = .ok (.invokevirtual 67, 3) := by decide +kernel
theorem dM_destroy_5 : decode cM_destroy 5 = .ok (.ifCond .eq 5, 3) := by decide +kernel
theorem dM_destroy_8 : decode cM_destroy 8 = .ok (.iconst (-1), 1) := by decide +kernel
theorem dM_destroy_9 : decode cM_destroy 9 = .ok (.ireturn, 1) := by decide +kernel
theorem dM_destroy_10 : decode cM_destroy 10 = .ok (.aload_n 0, 1) := by decide +kernel
theorem dM_destroy_11 : decode cM_destroy 11 = .ok (.iload_n 2, 1) := by decide +kernel
theorem dM_destroy_12 : decode cM_destroy 12 = .ok (.invokevirtual 85, 3) := by decide +kernel
theorem dM_destroy_15 : decode cM_destroy 15 = .ok (.ifCond .eq 6, 3) := by decide +kernel
theorem dM_destroy_18 : decode cM_destroy 18 = .ok (.bipush (-2), 2) := by decide +kernel
theorem dM_destroy_20 : decode cM_destroy 20 = .ok (.ireturn, 1) := by decide +kernel
theorem dM_destroy_21 : decode cM_destroy 21 = .ok (.aload_n 0, 1) := by decide +kernel
theorem dM_destroy_22 : decode cM_destroy 22 = .ok (.iload_n 1, 1) := by decide +kernel
theorem dM_destroy_23 : decode cM_destroy 23 = .ok (.aload_n 0, 1) := by decide +kernel
theorem dM_destroy_24 : decode cM_destroy 24 = .ok (.getfield 29, 3) := by decide +kernel
theorem dM_destroy_27 : decode cM_destroy 27 = .ok (.iload_n 2, 1) := by decide +kernel
theorem dM_destroy_28 : decode cM_destroy 28 = .ok (.iconst 1, 1) := by decide +kernel
theorem dM_destroy_29 : decode cM_destroy 29 = .ok (.isub, 1) := by decide +kernel
theorem dM_destroy_30 : decode cM_destroy 30 = .ok (.iaload, 1) := by decide +kernel
theorem dM_destroy_31 : decode cM_destroy 31 = .ok (.invokevirtual 57, 3) := by decide +kernel
theorem dM_destroy_34 : decode cM_destroy 34 = .ok (.ifCond .eq 6, 3) := by decide +kernel
theorem dM_destroy_37 : decode cM_destroy 37 = .ok (.bipush (-4), 2) := by decide +kernel
theorem dM_destroy_39 : decode cM_destroy 39 = .ok (.ireturn, 1) := by decide +kernel
theorem dM_destroy_40 : decode cM_destroy 40 = .ok (.aload_n 0, 1) := by decide +kernel
theorem dM_destroy_41 : decode cM_destroy 41 = .ok (.getfield 19, 3) := by decide +kernel
theorem dM_destroy_44 : decode cM_destroy 44 = .ok (.iload_n 2, 1) := by decide +kernel
theorem dM_destroy_45 : decode cM_destroy 45 = .ok (.iconst 1, 1) := by decide +kernel
theorem dM_destroy_46 : decode cM_destroy 46 = .ok (.isub, 1) := by decide +kernel
theorem dM_destroy_47 : decode cM_destroy 47 = .ok (.iconst 0, 1) := by decide +kernel
theorem dM_destroy_48 : decode cM_destroy 48 = .ok (.bastore, 1) := by decide +kernel
theorem dM_destroy_49 : decode cM_destroy 49 = .ok (.iconst 0, 1) := by decide +kernel
theorem dM_destroy_50 : decode cM_destroy 50 = .ok (.ireturn, 1) := by decide +kernel
theorem dM_attributes_0 : decode cM_attributes 0 = .ok (.aload_n 0, 1) := by decide +kernel
theorem dM_attributes_1 : decode cM_attributes 1 = .ok (.iload_n 1, 1) := by decide +kernel
theorem dM_attributes_2 : decode cM_attributes 2 = .ok (.invokevirtual 67, 3) := by decide +kernel
theorem dM_attributes_5 : decode cM_attributes 5 = .ok (.ifCond .eq 7, 3) := by decide +kernel
theorem dM_attributes_8 : decode cM_attributes 8 = .ok (.iconst (-1), 1) := by decide +kernel
theorem dM_attributes_9 : decode cM_attributes 9 = .ok (.goto 24, 3) := by decide +kernel
theorem dM_attributes_12 : decode cM_attributes 12 = .ok (.aload_n 0, 1) := by decide +kernel
theorem dM_attributes_13 : decode cM_attributes 13 = .ok (.iload_n 2, 1) := by decide +kernel
theorem dM_attributes_14 : decode cM_attributes 14 = .ok (.invokevirtual 85, 3) := by decide +kernel
theorem dM_attributes_17 : decode cM_attributes 17 = .ok (.ifCond .eq 8, 3) := by decide +kernel
theorem dM_attributes_20 : decode cM_attributes 20 = .ok (.bipush (-2), 2) := by decide +kernel
theorem dM_attributes_22 : decode cM_attributes 22 = .ok (.goto 11, 3) := by decide +kernel
theorem dM_attributes_25 : decode cM_attributes 25 = .ok (.aload_n 0, 1) := by decide +kernel
theorem dM_attributes_26 : decode cM_attributes 26 = .ok (.getfield 29, 3) := by decide +kernel
theorem dM_attributes_29 : decode cM_attributes 29 = .ok (.iload_n 2, 1) := by decide +kernel
theorem dM_attributes_30 : decode cM_attributes 30 = .ok (.iconst 1, 1) := by decide +kernel
theorem dM_attributes_31 : decode cM_attributes 31 = .ok (.isub, 1) := by decide +kernel
theorem dM_attributes_32 : decode cM_attributes 32 = .ok (.iaload, 1) := by decide +kernel
theorem dM_attributes_33 : decode cM_attributes 33 = .ok (.ireturn, 1) := by decide +kernel
theorem dM_limit_0 : decode cM_limit 0 = .ok (.aload_n 0, 1) := by decide +kernel
theorem dM_limit_1 : decode cM_limit 1 = .ok (.iload_n 1, 1) := by decide +kernel
theorem dM_limit_2 : decode cM_limit 2 = .ok (.invokevirtual 67, 3) := by decide +kernel
theorem dM_limit_5 : decode cM_limit 5 = .ok (.ifCond .eq 5, 3) := by decide +kernel
theorem dM_limit_8 : decode cM_limit 8 = .ok (.iconst (-1), 1) := by decide +kernel
theorem dM_limit_9 : decode cM_limit 9 = .ok (.ireturn, 1) := by decide +kernel
theorem dM_limit_10 : decode cM_limit 10 = .ok (.aload_n 0, 1) := by decide +kernel
theorem dM_limit_11 : decode cM_limit 11 = .ok (.iload_n 2, 1) := by decide +kernel
theorem dM_limit_12 : decode cM_limit 12 = .ok (.invokevirtual 85, 3) := by decide +kernel
theorem dM_limit_15 : decode cM_limit 15 = .ok (.ifCond .eq 6, 3) := by decide +kernel
theorem dM_limit_18 : decode cM_limit 18 = .ok (.bipush (-2), 2) := by decide +kernel
theorem dM_limit_20 : decode cM_limit 20 = .ok (.ireturn, 1) := by decide +kernel
theorem dM_limit_21 : decode cM_limit 21 = .ok (.aload_n 0, 1) := by decide +kernel
theorem dM_limit_22 : decode cM_limit 22 = .ok (.iload_n 1, 1) := by decide +kernel
theorem dM_limit_23 : decode cM_limit 23 = .ok (.aload_n 0, 1) := by decide +kernel
theorem dM_limit_24 : decode cM_limit 24 = .ok (.getfield 29, 3) := by decide +kernel
theorem dM_limit_27 : decode cM_limit 27 = .ok (.iload_n 2, 1) := by decide +kernel
theorem dM_limit_28 : decode cM_limit 28 = .ok (.iconst 1, 1) := by decide +kernel
theorem dM_limit_29 : decode cM_limit 29 = .ok (.isub, 1) := by decide +kernel
theorem dM_limit_30 : decode cM_limit 30 = .ok (.iaload, 1) := by decide +kernel
theorem dM_limit_31 : decode cM_limit 31 = .ok (.invokevirtual 57, 3) := by decide +kernel
theorem dM_limit_34 : decode cM_limit 34 = .ok (.ifCond .eq 6, 3) := by decide +kernel
theorem dM_limit_37 : decode cM_limit 37 = .ok (.bipush (-4), 2) := by decide +kernel
theorem dM_limit_39 : decode cM_limit 39 = .ok (.ireturn, 1) := by decide +kernel
theorem dM_limit_40 : decode cM_limit 40 = .ok (.iload_n 3, 1) := by decide +kernel
theorem dM_limit_41 : decode cM_limit 41 = .ok (.ifCond .eq 13, 3) := by decide +kernel
theorem dM_limit_44 : decode cM_limit 44 = .ok (.iload_n 3, 1) := by decide +kernel
theorem dM_limit_45 : decode cM_limit 45 = .ok (.sipush (-509), 3) := by decide +kernel
theorem dM_limit_48 : decode cM_limit 48 = .ok (.invokestatic 42, 3) := by decide +kernel
theorem dM_limit_51 : decode cM_limit 51 = .ok (.ifCond .eq 6, 3) := by decide +kernel
theorem dM_limit_54 : decode cM_limit 54 = .ok (.bipush (-5), 2) := by decide +kernel
theorem dM_limit_56 : decode cM_limit 56 = .ok (.ireturn, 1) := by decide +kernel
theorem dM_limit_57 : decode cM_limit 57 = .ok (.aload_n 0, 1) := by decide +kernel
theorem dM_limit_58 : decode cM_limit 58 = .ok (.getfield 29, 3) := by decide +kernel
theorem dM_limit_61 : decode cM_limit 61 = .ok (.iload_n 2, 1) := by decide +kernel
theorem dM_limit_62 : decode cM_limit 62 = .ok (.iconst 1, 1) := by decide +kernel
theorem dM_limit_63 : decode cM_limit 63 = .ok (.isub, 1) := by decide +kernel
theorem dM_limit_64 : decode cM_limit 64 = .ok (.iaload, 1) := by decide +kernel
theorem dM_limit_65 : decode cM_limit 65 = .ok (.istore 4, 2) := by decide +kernel
theorem dM_limit_67 : decode cM_limit 67 = .ok (.bipush 8, 2) := by decide +kernel
theorem dM_limit_69 : decode cM_limit 69 = .ok (.istore 5, 2) := by decide +kernel
theorem dM_limit_71 : decode cM_limit 71 = .ok (.iload 5, 2) := by decide +kernel
theorem dM_limit_73 : decode cM_limit 73 = .ok (.sipush 256, 3) := by decide +kernel
theorem dM_limit_76 : decode cM_limit 76 = .ok (.if_icmp .gt 43, 3) := by decide +kernel
theorem dM_limit_79 : decode cM_limit 79 = .ok (.iload_n 3, 1) := by decide +kernel
theorem dM_limit_80 : decode cM_limit 80 = .ok (.iload 5, 2) := by decide +kernel
theorem dM_limit_82 : decode cM_limit 82 = .ok (.invokestatic 42, 3) := by decide +kernel
theorem dM_limit_85 : decode cM_limit 85 = .ok (.ifCond .eq 21, 3) := by decide +kernel
theorem dM_limit_88 : decode cM_limit 88 = .ok (.iload 4, 2) := by decide +kernel
theorem dM_limit_90 : decode cM_limit 90 = .ok (.iload 5, 2) := by decide +kernel
theorem dM_limit_92 : decode cM_limit 92 = .ok (.invokestatic 42, 3) := by decide +kernel
theorem dM_limit_95 : decode cM_limit 95 = .ok (.ifCond .eq 11, 3) := by decide +kernel
theorem dM_limit_98 : decode cM_limit 98 = .ok (.iload 4, 2) := by decide +kernel
theorem dM_limit_100 : decode cM_limit 100 = .ok (.iload 5, 2) := by decide +kernel
theorem dM_limit_102 : decode cM_limit 102 = .ok (.isub, 1) := by decide +kernel
theorem dM_limit_103 : decode cM_limit 103 = .ok (.goto 5, 3) := by decide +kernel
theorem dM_limit_106 : decode cM_limit 106 = .ok (.iload 4, 2) := by decide +kernel
theorem dM_limit_108 : decode cM_limit 108 = .ok (.istore 4, 2) := by decide +kernel
theorem dM_limit_110 : decode cM_limit 110 = .ok (.iload 5, 2) := by decide +kernel
theorem dM_limit_112 : decode cM_limit 112 = .ok (.iconst 2, 1) := by decide +kernel
theorem dM_limit_113 : decode cM_limit 113 = .ok (.imul, 1) := by decide +kernel
theorem dM_limit_114 : decode cM_limit 114 = .ok (.istore 5, 2) := by decide +kernel
theorem dM_limit_116 : decode cM_limit 116 = .ok (.goto (-45), 3) := by decide +kernel
theorem dM_limit_119 : decode cM_limit 119 = .ok (.aload_n 0, 1) := by decide +kernel
theorem dM_limit_120 : decode cM_limit 120 = .ok (.getfield 29, 3) := by decide +kernel
theorem dM_limit_123 : decode cM_limit 123 = .ok (.iload_n 2, 1) := by decide +kernel
theorem dM_limit_124 : decode cM_limit 124 = .ok (.iconst 1, 1) := by decide +kernel
theorem dM_limit_125 : decode cM_limit 125 = .ok (.isub, 1) := by decide +kernel
theorem dM_limit_126 : decode cM_limit 126 = .ok (.iload_n 3, 1) := by decide +kernel
theorem dM_limit_127 : decode cM_limit 127 = .ok (.iconst 4, 1) := by decide +kernel
theorem dM_limit_128 : decode cM_limit 128 = .ok (.invokestatic 42, 3) := by decide +kernel
theorem dM_limit_131 : decode cM_limit 131 = .ok (.ifCond .eq 19, 3) := by decide +kernel
theorem dM_limit_134 : decode cM_limit 134 = .ok (.iload 4, 2) := by decide +kernel
theorem dM_limit_136 : decode cM_limit 136 = .ok (.iconst 4, 1) := by decide +kernel
theorem dM_limit_137 : decode cM_limit 137 = .ok (.invokestatic 42, 3) := by decide +kernel
theorem dM_limit_140 : decode cM_limit 140 = .ok (.ifCond .ne 10, 3) := by decide +kernel
theorem dM_limit_143 : decode cM_limit 143 = .ok (.iload 4, 2) := by decide +kernel
theorem dM_limit_145 : decode cM_limit 145 = .ok (.iconst 4, 1) := by decide +kernel
theorem dM_limit_146 : decode cM_limit 146 = .ok (.iadd, 1) := by decide +kernel
theorem dM_limit_147 : decode cM_limit 147 = .ok (.goto 5, 3) := by decide +kernel
theorem dM_limit_150 : decode cM_limit 150 = .ok (.iload 4, 2) := by decide +kernel
theorem dM_limit_152 : decode cM_limit 152 = .ok (.iastore, 1) := by decide +kernel
theorem dM_limit_153 : decode cM_limit 153 = .ok (.aload_n 0, 1) := by decide +kernel
theorem dM_limit_154 : decode cM_limit 154 = .ok (.getfield 29, 3) := by decide +kernel
theorem dM_limit_157 : decode cM_limit 157 = .ok (.iload_n 2, 1) := by decide +kernel
theorem dM_limit_158 : decode cM_limit 158 = .ok (.iconst 1, 1) := by decide +kernel
theorem dM_limit_159 : decode cM_limit 159 = .ok (.isub, 1) := by decide +kernel
theorem dM_limit_160 : decode cM_limit 160 = .ok (.iaload, 1) := by decide +kernel
theorem dM_limit_161 : decode cM_limit 161 = .ok (.ireturn, 1) := by decide +kernel
theorem dM_trust_0 : decode cM_trust 0 = .ok (.aload_n 0, 1) := by decide +kernel
theorem dM_trust_1 : decode cM_trust 1 = .ok (.iload_n 1, 1) := by decide +kernel
theorem dM_trust_2 : decode cM_trust 2 = .ok (.invokevirtual 67, 3) := by decide +kernel
theorem dM_trust_5 : decode cM_trust 5 = .ok (.ifCond .eq 5, 3) := by decide +kernel
theorem dM_trust_8 : decode cM_trust 8 = .ok (.iconst (-1), 1) := by decide +kernel
theorem dM_trust_9 : decode cM_trust 9 = .ok (.ireturn, 1) := by decide +kernel
theorem dM_trust_10 : decode cM_trust 10 = .ok (.aload_n 0, 1) := by decide +kernel
theorem dM_trust_11 : decode cM_trust 11 = .ok (.iload_n 2, 1) := by decide +kernel
theorem dM_trust_12 : decode cM_trust 12 = .ok (.invokevirtual 85, 3) := by decide +kernel
theorem dM_trust_15 : decode cM_trust 15 = .ok (.ifCond .eq 6, 3) := by decide +kernel
theorem dM_trust_18 : decode cM_trust 18 = .ok (.bipush (-2), 2) := by decide +kernel
theorem dM_trust_20 : decode cM_trust 20 = .ok (.ireturn, 1) := by decide +kernel
theorem dM_trust_21 : decode cM_trust 21 = .ok (.aload_n 0, 1) := by decide +kernel
theorem dM_trust_22 : decode cM_trust 22 = .ok (.getfield 46, 3) := by decide +kernel
theorem dM_trust_25 : decode cM_trust 25 = .ok (.iconst 2, 1) := by decide +kernel
theorem dM_trust_26 : decode cM_trust 26 = .ok (.if_icmp .eq 6, 3) := by decide +kernel
theorem dM_trust_29 : decode cM_trust 29 = .ok (.bipush (-3), 2) := by decide +kernel
theorem dM_trust_31 : decode cM_trust 31 = .ok (.ireturn, 1) := by decide +kernel
theorem dM_trust_32 : decode cM_trust 32 = .ok (.aload_n 0, 1) := by decide +kernel
theorem dM_trust_33 : decode cM_trust 33 = .ok (.iload_n 1, 1) := by decide +kernel
theorem dM_trust_34 : decode cM_trust 34 = .ok (.aload_n 0, 1) := by decide +kernel
theorem dM_trust_35 : decode cM_trust 35 = .ok (.getfield 29, 3) := by decide +kernel
theorem dM_trust_38 : decode cM_trust 38 = .ok (.iload_n 2, 1) := by decide +kernel
theorem dM_trust_39 : decode cM_trust 39 = .ok (.iconst 1, 1) := by decide +kernel
theorem dM_trust_40 : decode cM_trust 40 = .ok (.isub, 1) := by decide +kernel
theorem dM_trust_41 : decode cM_trust 41 = .ok (.iaload, 1) := by decide +kernel
theorem dM_trust_42 : decode cM_trust 42 = .ok (.invokevirtual 57, 3) := by decide +kernel
theorem dM_trust_45 : decode cM_trust 45 = .ok (.ifCond .eq 6, 3) := by decide +kernel
theorem dM_trust_48 : decode cM_trust 48 = .ok (.bipush (-4), 2) := by decide +kernel
theorem dM_trust_50 : decode cM_trust 50 = .ok (.ireturn, 1) := by decide +kernel
theorem dM_trust_51 : decode cM_trust 51 = .ok (.aload_n 0, 1) := by decide +kernel
theorem dM_trust_52 : decode cM_trust 52 = .ok (.getfield 29, 3) := by decide +kernel
theorem dM_trust_55 : decode cM_trust 55 = .ok (.iload_n 2, 1) := by decide +kernel
theorem dM_trust_56 : decode cM_trust 56 = .ok (.iconst 1, 1) := by decide +kernel
theorem dM_trust_57 : decode cM_trust 57 = .ok (.isub, 1) := by decide +kernel
theorem dM_trust_58 : decode cM_trust 58 = .ok (.iaload, 1) := by decide +kernel
theorem dM_trust_59 : decode cM_trust 59 = .ok (.iconst 1, 1) := by decide +kernel
theorem dM_trust_60 : decode cM_trust 60 = .ok (.invokestatic 42, 3) := by decide +kernel
theorem dM_trust_63 : decode cM_trust 63 = .ok (.ifCond .eq 20, 3) := by decide +kernel
theorem dM_trust_66 : decode cM_trust 66 = .ok (.aload_n 0, 1) := by decide +kernel
theorem dM_trust_67 : decode cM_trust 67 = .ok (.getfield 29, 3) := by decide +kernel
theorem dM_trust_70 : decode cM_trust 70 = .ok (.iload_n 2, 1) := by decide +kernel
theorem dM_trust_71 : decode cM_trust 71 = .ok (.iconst 1, 1) := by decide +kernel
theorem dM_trust_72 : decode cM_trust 72 = .ok (.isub, 1) := by decide +kernel
theorem dM_trust_73 : decode cM_trust 73 = .ok (.iaload, 1) := by decide +kernel
theorem dM_trust_74 : decode cM_trust 74 = .ok (.sipush 128, 3) := by decide +kernel
theorem dM_trust_77 : decode cM_trust 77 = .ok (.invokestatic 42, 3) := by decide +kernel
theorem dM_trust_80 : decode cM_trust 80 = .ok (.ifCond .ne 6, 3) := by decide +kernel
theorem dM_trust_83 : decode cM_trust 83 = .ok (.bipush (-5), 2) := by decide +kernel
theorem dM_trust_85 : decode cM_trust 85 = .ok (.ireturn, 1) := by decide +kernel
theorem dM_trust_86 : decode cM_trust 86 = .ok (.aload_n 0, 1) := by decide +kernel
theorem dM_trust_87 : decode cM_trust 87 = .ok (.getfield 29, 3) := by decide +kernel
theorem dM_trust_90 : decode cM_trust 90 = .ok (.iload_n 2, 1) := by decide +kernel
theorem dM_trust_91 : decode cM_trust 91 = .ok (.iconst 1, 1) := by decide +kernel
theorem dM_trust_92 : decode cM_trust 92 = .ok (.isub, 1) := by decide +kernel
theorem dM_trust_93 : decode cM_trust 93 = .ok (.aload_n 0, 1) := by decide +kernel
theorem dM_trust_94 : decode cM_trust 94 = .ok (.getfield 29, 3) := by decide +kernel
theorem dM_trust_97 : decode cM_trust 97 = .ok (.iload_n 2, 1) := by decide +kernel
theorem dM_trust_98 : decode cM_trust 98 = .ok (.iconst 1, 1) := by decide +kernel
theorem dM_trust_99 : decode cM_trust 99 = .ok (.isub, 1) := by decide +kernel
theorem dM_trust_100 : decode cM_trust 100 = .ok (.iaload, 1) := by decide +kernel
theorem dM_trust_101 : decode cM_trust 101 = .ok (.sipush 512, 3) := by decide +kernel
theorem dM_trust_104 : decode cM_trust 104 = .ok (.invokestatic 42, 3) := by decide +kernel
theorem dM_trust_107 : decode cM_trust 107 = .ok (.ifCond .eq 14, 3) := by decide +kernel
theorem dM_trust_110 : decode cM_trust 110 = .ok (.aload_n 0, 1) := by decide +kernel
theorem dM_trust_111 : decode cM_trust 111 = .ok (.getfield 29, 3) := by decide +kernel
theorem dM_trust_114 : decode cM_trust 114 = .ok (.iload_n 2, 1) := by decide +kernel
theorem dM_trust_115 : decode cM_trust 115 = .ok (.iconst 1, 1) := by decide +kernel
theorem dM_trust_116 : decode cM_trust 116 = .ok (.isub, 1) := by decide +kernel
theorem dM_trust_117 : decode cM_trust 117 = .ok (.iaload, 1) := by decide +kernel
theorem dM_trust_118 : decode cM_trust 118 = .ok (.goto 15, 3) := by decide +kernel
theorem dM_trust_121 : decode cM_trust 121 = .ok (.aload_n 0, 1) := by decide +kernel
theorem dM_trust_122 : decode cM_trust 122 = .ok (.getfield 29, 3) := by decide +kernel
theorem dM_trust_125 : decode cM_trust 125 = .ok (.iload_n 2, 1) := by decide +kernel
theorem dM_trust_126 : decode cM_trust 126 = .ok (.iconst 1, 1) := by decide +kernel
theorem dM_trust_127 : decode cM_trust 127 = .ok (.isub, 1) := by decide +kernel
theorem dM_trust_128 : decode cM_trust 128 = .ok (.iaload, 1) := by decide +kernel
theorem dM_trust_129 : decode cM_trust 129 = .ok (.sipush 512, 3) := by decide +kernel
theorem dM_trust_132 : decode cM_trust 132 = .ok (.iadd, 1) := by decide +kernel
theorem dM_trust_133 : decode cM_trust 133 = .ok (.iastore, 1) := by decide +kernel
theorem dM_trust_134 : decode cM_trust 134 = .ok (.iconst 0, 1) := by decide +kernel
theorem dM_trust_135 : decode cM_trust 135 = .ok (.ireturn, 1) := by decide +kernel
theorem dM_bar_0 : decode cM_bar 0 = .ok (.aload_n 0, 1) := by decide +kernel
theorem dM_bar_1 : decode cM_bar 1 = .ok (.iload_n 1, 1) := by decide +kernel
theorem dM_bar_2 : decode cM_bar 2 = .ok (.invokevirtual 67, 3) := by decide +kernel
theorem dM_bar_5 : decode cM_bar 5 = .ok (.ifCond .eq 5, 3) := by decide +kernel
theorem dM_bar_8 : decode cM_bar 8 = .ok (.iconst (-1), 1) := by decide +kernel
theorem dM_bar_9 : decode cM_bar 9 = .ok (.ireturn, 1) := by decide +kernel
theorem dM_bar_10 : decode cM_bar 10 = .ok (.aload_n 0, 1) := by decide +kernel
theorem dM_bar_11 : decode cM_bar 11 = .ok (.iload_n 2, 1) := by decide +kernel
theorem dM_bar_12 : decode cM_bar 12 = .ok (.invokevirtual 85, 3) := by decide +kernel
theorem dM_bar_15 : decode cM_bar 15 = .ok (.ifCond .eq 6, 3) := by decide +kernel
theorem dM_bar_18 : decode cM_bar 18 = .ok (.bipush (-2), 2) := by decide +kernel
theorem dM_bar_20 : decode cM_bar 20 = .ok (.ireturn, 1) := by decide +kernel
theorem dM_bar_21 : decode cM_bar 21 = .ok (.iload_n 3, 1) := by decide +kernel
theorem dM_bar_22 : decode cM_bar 22 = .ok (.ifCond .eq 18, 3) := by decide +kernel
theorem dM_bar_25 : decode cM_bar 25 = .ok (.aload_n 0, 1) := by decide +kernel
theorem dM_bar_26 : decode cM_bar 26 = .ok (.getfield 29, 3) := by decide +kernel
theorem dM_bar_29 : decode cM_bar 29 = .ok (.iload_n 2, 1) := by decide +kernel
theorem dM_bar_30 : decode cM_bar 30 = .ok (.iconst 1, 1) := by decide +kernel
theorem dM_bar_31 : decode cM_bar 31 = .ok (.isub, 1) := by decide +kernel
theorem dM_bar_32 : decode cM_bar 32 = .ok (.iaload, 1) := by decide +kernel
theorem dM_bar_33 : decode cM_bar 33 = .ok (.iload_n 3, 1) := by decide +kernel
theorem dM_bar_34 : decode cM_bar 34 = .ok (.invokestatic 42, 3) := by decide +kernel
theorem dM_bar_37 : decode cM_bar 37 = .ok (.ifCond .eq 28, 3) := by decide +kernel
theorem dM_bar_40 : decode cM_bar 40 = .ok (.iload 4, 2) := by decide +kernel
theorem dM_bar_42 : decode cM_bar 42 = .ok (.ifCond .eq 19, 3) := by decide +kernel
theorem dM_bar_45 : decode cM_bar 45 = .ok (.aload_n 0, 1) := by decide +kernel
theorem dM_bar_46 : decode cM_bar 46 = .ok (.getfield 29, 3) := by decide +kernel
theorem dM_bar_49 : decode cM_bar 49 = .ok (.iload_n 2, 1) := by decide +kernel
theorem dM_bar_50 : decode cM_bar 50 = .ok (.iconst 1, 1) := by decide +kernel
theorem dM_bar_51 : decode cM_bar 51 = .ok (.isub, 1) := by decide +kernel
theorem dM_bar_52 : decode cM_bar 52 = .ok (.iaload, 1) := by decide +kernel
theorem dM_bar_53 : decode cM_bar 53 = .ok (.iload 4, 2) := by decide +kernel
theorem dM_bar_55 : decode cM_bar 55 = .ok (.invokestatic 42, 3) := by decide +kernel
theorem dM_bar_58 : decode cM_bar 58 = .ok (.ifCond .ne 7, 3) := by decide +kernel
theorem dM_bar_61 : decode cM_bar 61 = .ok (.iconst 1, 1) := by decide +kernel
theorem dM_bar_62 : decode cM_bar 62 = .ok (.goto 4, 3) := by decide +kernel
theorem dM_bar_65 : decode cM_bar 65 = .ok (.iconst 0, 1) := by decide +kernel
theorem dM_bar_66 : decode cM_bar 66 = .ok (.istore 5, 2) := by decide +kernel
theorem dM_bar_68 : decode cM_bar 68 = .ok (.iload 5, 2) := by decide +kernel
theorem dM_bar_70 : decode cM_bar 70 = .ok (.ifCond .eq 7, 3) := by decide +kernel
theorem dM_bar_73 : decode cM_bar 73 = .ok (.iconst 0, 1) := by decide +kernel
theorem dM_bar_74 : decode cM_bar 74 = .ok (.goto 5, 3) := by decide +kernel
theorem dM_bar_77 : decode cM_bar 77 = .ok (.bipush (-5), 2) := by decide +kernel
theorem dM_bar_79 : decode cM_bar 79 = .ok (.ireturn, 1) := by decide +kernel
theorem dM_read_0 : decode cM_read 0 = .ok (.aload_n 0, 1) := by decide +kernel
theorem dM_read_1 : decode cM_read 1 = .ok (.iload_n 1, 1) := by decide +kernel
theorem dM_read_2 : decode cM_read 2 = .ok (.iload_n 2, 1) := by decide +kernel
theorem dM_read_3 : decode cM_read 3 = .ok (.iconst 0, 1) := by decide +kernel
theorem dM_read_4 : decode cM_read 4 = .ok (.iconst 4, 1) := by decide +kernel
theorem dM_read_5 : decode cM_read 5 = .ok (.invokevirtual 88, 3) := by decide +kernel
theorem dM_read_8 : decode cM_read 8 = .ok (.istore_n 3, 1) := by decide +kernel
theorem dM_read_9 : decode cM_read 9 = .ok (.iload_n 3, 1) := by decide +kernel
theorem dM_read_10 : decode cM_read 10 = .ok (.ifCond .ge 8, 3) := by decide +kernel
theorem dM_read_13 : decode cM_read 13 = .ok (.iload_n 3, 1) := by decide +kernel
theorem dM_read_14 : decode cM_read 14 = .ok (.i2l, 1) := by decide +kernel
theorem dM_read_15 : decode cM_read 15 = .ok (.goto 14, 3) := by decide +kernel
theorem dM_read_18 : decode cM_read 18 = .ok (.aload_n 0, 1) := by decide +kernel
theorem dM_read_19 : decode cM_read 19 = .ok (.getfield 23, 3) := by decide +kernel
theorem dM_read_22 : decode cM_read 22 = .ok (.iload_n 2, 1) := by decide +kernel
theorem dM_read_23 : decode cM_read 23 = .ok (.iconst 1, 1) := by decide +kernel
theorem dM_read_24 : decode cM_read 24 = .ok (.isub, 1) := by decide +kernel
theorem dM_read_25 : decode cM_read 25 = .ok (.iaload, 1) := by decide +kernel
theorem dM_read_26 : decode cM_read 26 = .ok (.invokestatic 92, 3) := by decide +kernel
theorem dM_read_29 : decode cM_read 29 = .ok (.lreturn, 1) := by decide +kernel
theorem dM_encrypt_0 : decode cM_encrypt 0 = .ok (.aload_n 0, 1) := by decide +kernel
theorem dM_encrypt_1 : decode cM_encrypt 1 = .ok (.iload_n 1, 1) := by decide +kernel
theorem dM_encrypt_2 : decode cM_encrypt 2 = .ok (.iload_n 2, 1) := by decide +kernel
theorem dM_encrypt_3 : decode cM_encrypt 3 = .ok (.bipush 16, 2) := by decide +kernel
theorem dM_encrypt_5 : decode cM_encrypt 5 = .ok (.iconst 0, 1) := by decide +kernel
theorem dM_encrypt_6 : decode cM_encrypt 6 = .ok (.invokevirtual 88, 3) := by decide +kernel
theorem dM_encrypt_9 : decode cM_encrypt 9 = .ok (.istore 4, 2) := by decide +kernel
theorem dM_encrypt_11 : decode cM_encrypt 11 = .ok (.iload 4, 2) := by decide +kernel
theorem dM_encrypt_13 : decode cM_encrypt 13 = .ok (.ifCond .ge 9, 3) := by decide +kernel
theorem dM_encrypt_16 : decode cM_encrypt 16 = .ok (.iload 4, 2) := by decide +kernel
theorem dM_encrypt_18 : decode cM_encrypt 18 = .ok (.i2l, 1) := by decide +kernel
theorem dM_encrypt_19 : decode cM_encrypt 19 = .ok (.goto 19, 3) := by decide +kernel
theorem dM_encrypt_22 : decode cM_encrypt 22 = .ok (.aload_n 0, 1) := by decide +kernel
theorem dM_encrypt_23 : decode cM_encrypt 23 = .ok (.getfield 23, 3) := by decide +kernel
theorem dM_encrypt_26 : decode cM_encrypt 26 = .ok (.iload_n 2, 1) := by decide +kernel
theorem dM_encrypt_27 : decode cM_encrypt 27 = .ok (.iconst 1, 1) := by decide +kernel
theorem dM_encrypt_28 : decode cM_encrypt 28 = .ok (.isub, 1) := by decide +kernel
theorem dM_encrypt_29 : decode cM_encrypt 29 = .ok (.iaload, 1) := by decide +kernel
theorem dM_encrypt_30 : decode cM_encrypt 30 = .ok (.iload_n 3, 1) := by decide +kernel
theorem dM_encrypt_31 : decode cM_encrypt 31 = .ok (.iconst 1, 1) := by decide +kernel
theorem dM_encrypt_32 : decode cM_encrypt 32 = .ok (.invokestatic 96, 3) := by decide +kernel
theorem dM_encrypt_35 : decode cM_encrypt 35 = .ok (.invokestatic 92, 3) := by decide +kernel
theorem dM_encrypt_38 : decode cM_encrypt 38 = .ok (.lreturn, 1) := by decide +kernel
theorem dM_decrypt_0 : decode cM_decrypt 0 = .ok (.aload_n 0, 1) := by decide +kernel
theorem dM_decrypt_1 : decode cM_decrypt 1 = .ok (.iload_n 1, 1) := by decide +kernel
theorem dM_decrypt_2 : decode cM_decrypt 2 = .ok (.iload_n 2, 1) := by decide +kernel
theorem dM_decrypt_3 : decode cM_decrypt 3 = .ok (.bipush 32, 2) := by decide +kernel
theorem dM_decrypt_5 : decode cM_decrypt 5 = .ok (.iconst 0, 1) := by decide +kernel
theorem dM_decrypt_6 : decode cM_decrypt 6 = .ok (.invokevirtual 88, 3) := by decide +kernel
theorem dM_decrypt_9 : decode cM_decrypt 9 = .ok (.istore 4, 2) := by decide +kernel
theorem dM_decrypt_11 : decode cM_decrypt 11 = .ok (.iload 4, 2) := by decide +kernel
theorem dM_decrypt_13 : decode cM_decrypt 13 = .ok (.ifCond .ge 9, 3) := by decide +kernel
theorem dM_decrypt_16 : decode cM_decrypt 16 = .ok (.iload 4, 2) := by decide +kernel
theorem dM_decrypt_18 : decode cM_decrypt 18 = .ok (.i2l, 1) := by decide +kernel
theorem dM_decrypt_19 : decode cM_decrypt 19 = .ok (.goto 19, 3) := by decide +kernel
theorem dM_decrypt_22 : decode cM_decrypt 22 = .ok (.aload_n 0, 1) := by decide +kernel
theorem dM_decrypt_23 : decode cM_decrypt 23 = .ok (.getfield 23, 3) := by decide +kernel
theorem dM_decrypt_26 : decode cM_decrypt 26 = .ok (.iload_n 2, 1) := by decide +kernel
theorem dM_decrypt_27 : decode cM_decrypt 27 = .ok (.iconst 1, 1) := by decide +kernel
theorem dM_decrypt_28 : decode cM_decrypt 28 = .ok (.isub, 1) := by decide +kernel
theorem dM_decrypt_29 : decode cM_decrypt 29 = .ok (.iaload, 1) := by decide +kernel
theorem dM_decrypt_30 : decode cM_decrypt 30 = .ok (.iload_n 3, 1) := by decide +kernel
theorem dM_decrypt_31 : decode cM_decrypt 31 = .ok (.iconst 0, 1) := by decide +kernel
theorem dM_decrypt_32 : decode cM_decrypt 32 = .ok (.invokestatic 96, 3) := by decide +kernel
theorem dM_decrypt_35 : decode cM_decrypt 35 = .ok (.invokestatic 92, 3) := by decide +kernel
theorem dM_decrypt_38 : decode cM_decrypt 38 = .ok (.lreturn, 1) := by decide +kernel
theorem dM_sign_0 : decode cM_sign 0 = .ok (.aload_n 0, 1) := by decide +kernel
theorem dM_sign_1 : decode cM_sign 1 = .ok (.iload_n 1, 1) := by decide +kernel
theorem dM_sign_2 : decode cM_sign 2 = .ok (.iload_n 2, 1) := by decide +kernel
theorem dM_sign_3 : decode cM_sign 3 = .ok (.bipush 64, 2) := by decide +kernel
theorem dM_sign_5 : decode cM_sign 5 = .ok (.iconst 0, 1) := by decide +kernel
theorem dM_sign_6 : decode cM_sign 6 = .ok (.invokevirtual 88, 3) := by decide +kernel
theorem dM_sign_9 : decode cM_sign 9 = .ok (.istore 4, 2) := by decide +kernel
theorem dM_sign_11 : decode cM_sign 11 = .ok (.iload 4, 2) := by decide +kernel
theorem dM_sign_13 : decode cM_sign 13 = .ok (.ifCond .ge 9, 3) := by decide +kernel
theorem dM_sign_16 : decode cM_sign 16 = .ok (.iload 4, 2) := by decide +kernel
theorem dM_sign_18 : decode cM_sign 18 = .ok (.i2l, 1) := by decide +kernel
theorem dM_sign_19 : decode cM_sign 19 = .ok (.goto 18, 3) := by decide +kernel
theorem dM_sign_22 : decode cM_sign 22 = .ok (.aload_n 0, 1) := by decide +kernel
theorem dM_sign_23 : decode cM_sign 23 = .ok (.getfield 23, 3) := by decide +kernel
theorem dM_sign_26 : decode cM_sign 26 = .ok (.iload_n 2, 1) := by decide +kernel
theorem dM_sign_27 : decode cM_sign 27 = .ok (.iconst 1, 1) := by decide +kernel
theorem dM_sign_28 : decode cM_sign 28 = .ok (.isub, 1) := by decide +kernel
theorem dM_sign_29 : decode cM_sign 29 = .ok (.iaload, 1) := by decide +kernel
theorem dM_sign_30 : decode cM_sign 30 = .ok (.iload_n 3, 1) := by decide +kernel
theorem dM_sign_31 : decode cM_sign 31 = .ok (.invokestatic 81, 3) := by decide +kernel
theorem dM_sign_34 : decode cM_sign 34 = .ok (.invokestatic 92, 3) := by decide +kernel
theorem dM_sign_37 : decode cM_sign 37 = .ok (.lreturn, 1) := by decide +kernel
theorem dM_wrap_0 : decode cM_wrap 0 = .ok (.aload_n 0, 1) := by decide +kernel
theorem dM_wrap_1 : decode cM_wrap 1 = .ok (.iload_n 1, 1) := by decide +kernel
theorem dM_wrap_2 : decode cM_wrap 2 = .ok (.invokevirtual 67, 3) := by decide +kernel
theorem dM_wrap_5 : decode cM_wrap 5 = .ok (.ifCond .eq 7, 3) := by decide +kernel
theorem dM_wrap_8 : decode cM_wrap 8 = .ok (.ldc2_w 99, 3) := by decide +kernel
theorem dM_wrap_11 : decode cM_wrap 11 = .ok (.lreturn, 1) := by decide +kernel
theorem dM_wrap_12 : decode cM_wrap 12 = .ok (.aload_n 0, 1) := by decide +kernel
theorem dM_wrap_13 : decode cM_wrap 13 = .ok (.iload_n 2, 1) := by decide +kernel
theorem dM_wrap_14 : decode cM_wrap 14 = .ok (.invokevirtual 85, 3) := by decide +kernel
theorem dM_wrap_17 : decode cM_wrap 17 = .ok (.ifCond .ne 11, 3) := by decide +kernel
theorem dM_wrap_20 : decode cM_wrap 20 = .ok (.aload_n 0, 1) := by decide +kernel
theorem dM_wrap_21 : decode cM_wrap 21 = .ok (.iload_n 3, 1) := by decide +kernel
theorem dM_wrap_22 : decode cM_wrap 22 = .ok (.invokevirtual 85, 3) := by decide +kernel
theorem dM_wrap_25 : decode cM_wrap 25 = .ok (.ifCond .eq 7, 3) := by decide +kernel
theorem dM_wrap_28 : decode cM_wrap 28 = .ok (.ldc2_w 101, 3) := by decide +kernel
theorem dM_wrap_31 : decode cM_wrap 31 = .ok (.lreturn, 1) := by decide +kernel
theorem dM_wrap_32 : decode cM_wrap 32 = .ok (.aload_n 0, 1) := by decide +kernel
theorem dM_wrap_33 : decode cM_wrap 33 = .ok (.getfield 29, 3) := by decide +kernel
theorem dM_wrap_36 : decode cM_wrap 36 = .ok (.iload_n 2, 1) := by decide +kernel
theorem dM_wrap_37 : decode cM_wrap 37 = .ok (.iconst 1, 1) := by decide +kernel
theorem dM_wrap_38 : decode cM_wrap 38 = .ok (.isub, 1) := by decide +kernel
theorem dM_wrap_39 : decode cM_wrap 39 = .ok (.iaload, 1) := by decide +kernel
theorem dM_wrap_40 : decode cM_wrap 40 = .ok (.sipush 128, 3) := by decide +kernel
theorem dM_wrap_43 : decode cM_wrap 43 = .ok (.invokestatic 42, 3) := by decide +kernel
theorem dM_wrap_46 : decode cM_wrap 46 = .ok (.ifCond .eq 36, 3) := by decide +kernel
theorem dM_wrap_49 : decode cM_wrap 49 = .ok (.aload_n 0, 1) := by decide +kernel
theorem dM_wrap_50 : decode cM_wrap 50 = .ok (.getfield 29, 3) := by decide +kernel
theorem dM_wrap_53 : decode cM_wrap 53 = .ok (.iload_n 2, 1) := by decide +kernel
theorem dM_wrap_54 : decode cM_wrap 54 = .ok (.iconst 1, 1) := by decide +kernel
theorem dM_wrap_55 : decode cM_wrap 55 = .ok (.isub, 1) := by decide +kernel
theorem dM_wrap_56 : decode cM_wrap 56 = .ok (.iaload, 1) := by decide +kernel
theorem dM_wrap_57 : decode cM_wrap 57 = .ok (.sipush 512, 3) := by decide +kernel
theorem dM_wrap_60 : decode cM_wrap 60 = .ok (.invokestatic 42, 3) := by decide +kernel
theorem dM_wrap_63 : decode cM_wrap 63 = .ok (.ifCond .eq 19, 3) := by decide +kernel
theorem dM_wrap_66 : decode cM_wrap 66 = .ok (.aload_n 0, 1) := by decide +kernel
theorem dM_wrap_67 : decode cM_wrap 67 = .ok (.getfield 29, 3) := by decide +kernel
theorem dM_wrap_70 : decode cM_wrap 70 = .ok (.iload_n 3, 1) := by decide +kernel
theorem dM_wrap_71 : decode cM_wrap 71 = .ok (.iconst 1, 1) := by decide +kernel
theorem dM_wrap_72 : decode cM_wrap 72 = .ok (.isub, 1) := by decide +kernel
theorem dM_wrap_73 : decode cM_wrap 73 = .ok (.iaload, 1) := by decide +kernel
theorem dM_wrap_74 : decode cM_wrap 74 = .ok (.bipush 8, 2) := by decide +kernel
theorem dM_wrap_76 : decode cM_wrap 76 = .ok (.invokestatic 42, 3) := by decide +kernel
theorem dM_wrap_79 : decode cM_wrap 79 = .ok (.ifCond .ne 7, 3) := by decide +kernel
theorem dM_wrap_82 : decode cM_wrap 82 = .ok (.ldc2_w 103, 3) := by decide +kernel
theorem dM_wrap_85 : decode cM_wrap 85 = .ok (.lreturn, 1) := by decide +kernel
theorem dM_wrap_86 : decode cM_wrap 86 = .ok (.aload_n 0, 1) := by decide +kernel
theorem dM_wrap_87 : decode cM_wrap 87 = .ok (.getfield 23, 3) := by decide +kernel
theorem dM_wrap_90 : decode cM_wrap 90 = .ok (.iload_n 2, 1) := by decide +kernel
theorem dM_wrap_91 : decode cM_wrap 91 = .ok (.iconst 1, 1) := by decide +kernel
theorem dM_wrap_92 : decode cM_wrap 92 = .ok (.isub, 1) := by decide +kernel
theorem dM_wrap_93 : decode cM_wrap 93 = .ok (.iaload, 1) := by decide +kernel
theorem dM_wrap_94 : decode cM_wrap 94 = .ok (.istore 4, 2) := by decide +kernel
theorem dM_wrap_96 : decode cM_wrap 96 = .ok (.aload_n 0, 1) := by decide +kernel
theorem dM_wrap_97 : decode cM_wrap 97 = .ok (.getfield 23, 3) := by decide +kernel
theorem dM_wrap_100 : decode cM_wrap 100 = .ok (.iload_n 3, 1) := by decide +kernel
theorem dM_wrap_101 : decode cM_wrap 101 = .ok (.iconst 1, 1) := by decide +kernel
theorem dM_wrap_102 : decode cM_wrap 102 = .ok (.isub, 1) := by decide +kernel
theorem dM_wrap_103 : decode cM_wrap 103 = .ok (.iaload, 1) := by decide +kernel
theorem dM_wrap_104 : decode cM_wrap 104 = .ok (.istore 5, 2) := by decide +kernel
theorem dM_wrap_106 : decode cM_wrap 106 = .ok (.iload 4, 2) := by decide +kernel
theorem dM_wrap_108 : decode cM_wrap 108 = .ok (.iload 5, 2) := by decide +kernel
theorem dM_wrap_110 : decode cM_wrap 110 = .ok (.invokestatic 81, 3) := by decide +kernel
theorem dM_wrap_113 : decode cM_wrap 113 = .ok (.ldc 105, 2) := by decide +kernel
theorem dM_wrap_115 : decode cM_wrap 115 = .ok (.iand, 1) := by decide +kernel
theorem dM_wrap_116 : decode cM_wrap 116 = .ok (.i2l, 1) := by decide +kernel
theorem dM_wrap_117 : decode cM_wrap 117 = .ok (.lstore 6, 2) := by decide +kernel
theorem dM_wrap_119 : decode cM_wrap 119 = .ok (.lload 6, 2) := by decide +kernel
theorem dM_wrap_121 : decode cM_wrap 121 = .ok (.ldc2_w 40, 3) := by decide +kernel
theorem dM_wrap_124 : decode cM_wrap 124 = .ok (.lmul, 1) := by decide +kernel
theorem dM_wrap_125 : decode cM_wrap 125 = .ok (.iload 4, 2) := by decide +kernel
theorem dM_wrap_127 : decode cM_wrap 127 = .ok (.iload 5, 2) := by decide +kernel
theorem dM_wrap_129 : decode cM_wrap 129 = .ok (.iconst 1, 1) := by decide +kernel
theorem dM_wrap_130 : decode cM_wrap 130 = .ok (.invokestatic 96, 3) := by decide +kernel
theorem dM_wrap_133 : decode cM_wrap 133 = .ok (.invokestatic 92, 3) := by decide +kernel
theorem dM_wrap_136 : decode cM_wrap 136 = .ok (.ladd, 1) := by decide +kernel
theorem dM_wrap_137 : decode cM_wrap 137 = .ok (.lreturn, 1) := by decide +kernel
theorem dM_unwrap_0 : decode cM_unwrap 0 = .ok (.aload_n 0, 1) := by decide +kernel
theorem dM_unwrap_1 : decode cM_unwrap 1 = .ok (.iload_n 1, 1) := by decide +kernel
theorem dM_unwrap_2 : decode cM_unwrap 2 = .ok (.invokevirtual 67, 3) := by decide +kernel
theorem dM_unwrap_5 : decode cM_unwrap 5 = .ok (.ifCond .eq 5, 3) := by decide +kernel
theorem dM_unwrap_8 : decode cM_unwrap 8 = .ok (.iconst (-1), 1) := by decide +kernel
theorem dM_unwrap_9 : decode cM_unwrap 9 = .ok (.ireturn, 1) := by decide +kernel
theorem dM_unwrap_10 : decode cM_unwrap 10 = .ok (.aload_n 0, 1) := by decide +kernel
theorem dM_unwrap_11 : decode cM_unwrap 11 = .ok (.iload_n 2, 1) := by decide +kernel
theorem dM_unwrap_12 : decode cM_unwrap 12 = .ok (.invokevirtual 85, 3) := by decide +kernel
theorem dM_unwrap_15 : decode cM_unwrap 15 = .ok (.ifCond .eq 6, 3) := by decide +kernel
theorem dM_unwrap_18 : decode cM_unwrap 18 = .ok (.bipush (-2), 2) := by decide +kernel
theorem dM_unwrap_20 : decode cM_unwrap 20 = .ok (.ireturn, 1) := by decide +kernel
theorem dM_unwrap_21 : decode cM_unwrap 21 = .ok (.aload_n 0, 1) := by decide +kernel
theorem dM_unwrap_22 : decode cM_unwrap 22 = .ok (.iload_n 1, 1) := by decide +kernel
theorem dM_unwrap_23 : decode cM_unwrap 23 = .ok (.iload 5, 2) := by decide +kernel
theorem dM_unwrap_25 : decode cM_unwrap 25 = .ok (.iload 5, 2) := by decide +kernel
theorem dM_unwrap_27 : decode cM_unwrap 27 = .ok (.sipush 128, 3) := by decide +kernel
theorem dM_unwrap_30 : decode cM_unwrap 30 = .ok (.invokestatic 42, 3) := by decide +kernel
theorem dM_unwrap_33 : decode cM_unwrap 33 = .ok (.ifCond .ne 20, 3) := by decide +kernel
theorem dM_unwrap_36 : decode cM_unwrap 36 = .ok (.aload_n 0, 1) := by decide +kernel
theorem dM_unwrap_37 : decode cM_unwrap 37 = .ok (.getfield 29, 3) := by decide +kernel
theorem dM_unwrap_40 : decode cM_unwrap 40 = .ok (.iload_n 2, 1) := by decide +kernel
theorem dM_unwrap_41 : decode cM_unwrap 41 = .ok (.iconst 1, 1) := by decide +kernel
theorem dM_unwrap_42 : decode cM_unwrap 42 = .ok (.isub, 1) := by decide +kernel
theorem dM_unwrap_43 : decode cM_unwrap 43 = .ok (.iaload, 1) := by decide +kernel
theorem dM_unwrap_44 : decode cM_unwrap 44 = .ok (.sipush 256, 3) := by decide +kernel
theorem dM_unwrap_47 : decode cM_unwrap 47 = .ok (.invokestatic 42, 3) := by decide +kernel
theorem dM_unwrap_50 : decode cM_unwrap 50 = .ok (.ifCond .ne 7, 3) := by decide +kernel
theorem dM_unwrap_53 : decode cM_unwrap 53 = .ok (.iconst 1, 1) := by decide +kernel
theorem dM_unwrap_54 : decode cM_unwrap 54 = .ok (.goto 4, 3) := by decide +kernel
theorem dM_unwrap_57 : decode cM_unwrap 57 = .ok (.iconst 0, 1) := by decide +kernel
theorem dM_unwrap_58 : decode cM_unwrap 58 = .ok (.invokevirtual 70, 3) := by decide +kernel
theorem dM_unwrap_61 : decode cM_unwrap 61 = .ok (.istore 6, 2) := by decide +kernel
theorem dM_unwrap_63 : decode cM_unwrap 63 = .ok (.iload 6, 2) := by decide +kernel
theorem dM_unwrap_65 : decode cM_unwrap 65 = .ok (.ifCond .ge 6, 3) := by decide +kernel
theorem dM_unwrap_68 : decode cM_unwrap 68 = .ok (.iload 6, 2) := by decide +kernel
theorem dM_unwrap_70 : decode cM_unwrap 70 = .ok (.ireturn, 1) := by decide +kernel
theorem dM_unwrap_71 : decode cM_unwrap 71 = .ok (.aload_n 0, 1) := by decide +kernel
theorem dM_unwrap_72 : decode cM_unwrap 72 = .ok (.getfield 23, 3) := by decide +kernel
theorem dM_unwrap_75 : decode cM_unwrap 75 = .ok (.iload_n 2, 1) := by decide +kernel
theorem dM_unwrap_76 : decode cM_unwrap 76 = .ok (.iconst 1, 1) := by decide +kernel
theorem dM_unwrap_77 : decode cM_unwrap 77 = .ok (.isub, 1) := by decide +kernel
theorem dM_unwrap_78 : decode cM_unwrap 78 = .ok (.iaload, 1) := by decide +kernel
theorem dM_unwrap_79 : decode cM_unwrap 79 = .ok (.istore 7, 2) := by decide +kernel
theorem dM_unwrap_81 : decode cM_unwrap 81 = .ok (.iload 7, 2) := by decide +kernel
theorem dM_unwrap_83 : decode cM_unwrap 83 = .ok (.lload_n 3, 1) := by decide +kernel
theorem dM_unwrap_84 : decode cM_unwrap 84 = .ok (.l2i, 1) := by decide +kernel
theorem dM_unwrap_85 : decode cM_unwrap 85 = .ok (.iconst 0, 1) := by decide +kernel
theorem dM_unwrap_86 : decode cM_unwrap 86 = .ok (.invokestatic 96, 3) := by decide +kernel
theorem dM_unwrap_89 : decode cM_unwrap 89 = .ok (.istore 8, 2) := by decide +kernel
theorem dM_unwrap_91 : decode cM_unwrap 91 = .ok (.iload 7, 2) := by decide +kernel
theorem dM_unwrap_93 : decode cM_unwrap 93 = .ok (.iload 8, 2) := by decide +kernel
theorem dM_unwrap_95 : decode cM_unwrap 95 = .ok (.invokestatic 81, 3) := by decide +kernel
theorem dM_unwrap_98 : decode cM_unwrap 98 = .ok (.ldc 105, 2) := by decide +kernel
theorem dM_unwrap_100 : decode cM_unwrap 100 = .ok (.iand, 1) := by decide +kernel
theorem dM_unwrap_101 : decode cM_unwrap 101 = .ok (.i2l, 1) := by decide +kernel
theorem dM_unwrap_102 : decode cM_unwrap 102 = .ok (.lstore 9, 2) := by decide +kernel
theorem dM_unwrap_104 : decode cM_unwrap 104 = .ok (.lload_n 3, 1) := by decide +kernel
theorem dM_unwrap_105 : decode cM_unwrap 105 = .ok (.bipush 32, 2) := by decide +kernel
theorem dM_unwrap_107 : decode cM_unwrap 107 = .ok (.lushr, 1) := by decide +kernel
theorem dM_unwrap_108 : decode cM_unwrap 108 = .ok (.lload 9, 2) := by decide +kernel
theorem dM_unwrap_110 : decode cM_unwrap 110 = .ok (.lcmp, 1) := by decide +kernel
theorem dM_unwrap_111 : decode cM_unwrap 111 = .ok (.ifCond .eq 8, 3) := by decide +kernel
theorem dM_unwrap_114 : decode cM_unwrap 114 = .ok (.bipush (-7), 2) := by decide +kernel
theorem dM_unwrap_116 : decode cM_unwrap 116 = .ok (.goto 12, 3) := by decide +kernel
theorem dM_unwrap_119 : decode cM_unwrap 119 = .ok (.aload_n 0, 1) := by decide +kernel
theorem dM_unwrap_120 : decode cM_unwrap 120 = .ok (.iload_n 1, 1) := by decide +kernel
theorem dM_unwrap_121 : decode cM_unwrap 121 = .ok (.iload 5, 2) := by decide +kernel
theorem dM_unwrap_123 : decode cM_unwrap 123 = .ok (.iload 8, 2) := by decide +kernel
theorem dM_unwrap_125 : decode cM_unwrap 125 = .ok (.invokevirtual 74, 3) := by decide +kernel
theorem dM_unwrap_128 : decode cM_unwrap 128 = .ok (.ireturn, 1) := by decide +kernel
theorem dM_find_0 : decode cM_find 0 = .ok (.aload_n 0, 1) := by decide +kernel
theorem dM_find_1 : decode cM_find 1 = .ok (.iload_n 1, 1) := by decide +kernel
theorem dM_find_2 : decode cM_find 2 = .ok (.invokevirtual 67, 3) := by decide +kernel
theorem dM_find_5 : decode cM_find 5 = .ok (.ifCond .eq 5, 3) := by decide +kernel
theorem dM_find_8 : decode cM_find 8 = .ok (.iconst (-1), 1) := by decide +kernel
theorem dM_find_9 : decode cM_find 9 = .ok (.ireturn, 1) := by decide +kernel
theorem dM_find_10 : decode cM_find 10 = .ok (.iconst 0, 1) := by decide +kernel
theorem dM_find_11 : decode cM_find 11 = .ok (.istore_n 3, 1) := by decide +kernel
theorem dM_find_12 : decode cM_find 12 = .ok (.iconst 0, 1) := by decide +kernel
theorem dM_find_13 : decode cM_find 13 = .ok (.istore 4, 2) := by decide +kernel
theorem dM_find_15 : decode cM_find 15 = .ok (.iload 4, 2) := by decide +kernel
theorem dM_find_17 : decode cM_find 17 = .ok (.aload_n 0, 1) := by decide +kernel
theorem dM_find_18 : decode cM_find 18 = .ok (.getfield 50, 3) := by decide +kernel
theorem dM_find_21 : decode cM_find 21 = .ok (.if_icmp .ge 31, 3) := by decide +kernel
theorem dM_find_24 : decode cM_find 24 = .ok (.aload_n 0, 1) := by decide +kernel
theorem dM_find_25 : decode cM_find 25 = .ok (.iload 4, 2) := by decide +kernel
theorem dM_find_27 : decode cM_find 27 = .ok (.invokevirtual 53, 3) := by decide +kernel
theorem dM_find_30 : decode cM_find 30 = .ok (.ifCond .eq 16, 3) := by decide +kernel
