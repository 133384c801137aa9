theorem dT_init_0 : decode cT_init 0 = .ok (.aload_n 0, 1) := by decide +kernel
theorem dT_init_1 : decode cT_init 1 = .ok (.invokespecial 3, 3) := by decide +kernel
theorem dT_init_4 : decode cT_init 4 = .ok (.aload_n 0, 1) := by decide +kernel
theorem dT_init_5 : decode cT_init 5 = .ok (.new 9, 3) := by decide +kernel
theorem dT_init_8 : decode cT_init 8 = .ok (.dup, 1) := by decide +kernel
theorem dT_init_9 : decode cT_init 9 = .ok (.iload_n 1, 1) := by decide +kernel
theorem dT_init_10 : decode cT_init 10 = .ok (.invokespecial 11, 3) := by decide +kernel
theorem dT_init_13 : decode cT_init 13 = .ok (.putfield 14, 3) := by decide +kernel
theorem dT_init_16 : decode cT_init 16 = .ok (.aload_n 0, 1) := by decide +kernel
theorem dT_init_17 : decode cT_init 17 = .ok (.new 9, 3) := by decide +kernel
theorem dT_init_20 : decode cT_init 20 = .ok (.dup, 1) := by decide +kernel
theorem dT_init_21 : decode cT_init 21 = .ok (.iload_n 2, 1) := by decide +kernel
theorem dT_init_22 : decode cT_init 22 = .ok (.invokespecial 11, 3) := by decide +kernel
theorem dT_init_25 : decode cT_init 25 = .ok (.putfield 18, 3) := by decide +kernel
theorem dT_init_28 : decode cT_init 28 = .ok (.aload_n 0, 1) := by decide +kernel
theorem dT_init_29 : decode cT_init 29 = .ok (.new 21, 3) := by decide +kernel
theorem dT_init_32 : decode cT_init 32 = .ok (.dup, 1) := by decide +kernel
theorem dT_init_33 : decode cT_init 33 = .ok (.invokespecial 23, 3) := by decide +kernel
theorem dT_init_36 : decode cT_init 36 = .ok (.putfield 24, 3) := by decide +kernel
theorem dT_init_39 : decode cT_init 39 = .ok (.aload_n 0, 1) := by decide +kernel
theorem dT_init_40 : decode cT_init 40 = .ok (.iconst 0, 1) := by decide +kernel
theorem dT_init_41 : decode cT_init 41 = .ok (.putfield 28, 3) := by decide +kernel
theorem dT_init_44 : decode cT_init 44 = .ok (.return_, 1) := by decide +kernel
theorem dT_open_0 : decode cT_open 0 = .ok (.iload_n 1, 1) := by decide +kernel
theorem dT_open_1 : decode cT_open 1 = .ok (.ifCond .ne 14, 3) := by decide +kernel
theorem dT_open_4 : decode cT_open 4 = .ok (.aload_n 0, 1) := by decide +kernel
theorem dT_open_5 : decode cT_open 5 = .ok (.getfield 28, 3) := by decide +kernel
theorem dT_open_8 : decode cT_open 8 = .ok (.iconst 2, 1) := by decide +kernel
theorem dT_open_9 : decode cT_open 9 = .ok (.if_icmp .ne 6, 3) := by decide +kernel
theorem dT_open_12 : decode cT_open 12 = .ok (.bipush (-3), 2) := by decide +kernel
theorem dT_open_14 : decode cT_open 14 = .ok (.ireturn, 1) := by decide +kernel
theorem dT_open_15 : decode cT_open 15 = .ok (.iconst 0, 1) := by decide +kernel
theorem dT_open_16 : decode cT_open 16 = .ok (.istore_n 2, 1) := by decide +kernel
theorem dT_open_17 : decode cT_open 17 = .ok (.iload_n 2, 1) := by decide +kernel
theorem dT_open_18 : decode cT_open 18 = .ok (.iconst 3, 1) := by decide +kernel
theorem dT_open_19 : decode cT_open 19 = .ok (.if_icmp .ge 47, 3) := by decide +kernel
theorem dT_open_22 : decode cT_open 22 = .ok (.aload_n 0, 1) := by decide +kernel
theorem dT_open_23 : decode cT_open 23 = .ok (.iload_n 2, 1) := by decide +kernel
theorem dT_open_24 : decode cT_open 24 = .ok (.invokevirtual 32, 3) := by decide +kernel
theorem dT_open_27 : decode cT_open 27 = .ok (.ifCond .ne 33, 3) := by decide +kernel
theorem dT_open_30 : decode cT_open 30 = .ok (.aload_n 0, 1) := by decide +kernel
theorem dT_open_31 : decode cT_open 31 = .ok (.dup, 1) := by decide +kernel
theorem dT_open_32 : decode cT_open 32 = .ok (.getfield 36, 3) := by decide +kernel
theorem dT_open_35 : decode cT_open 35 = .ok (.iconst 1, 1) := by decide +kernel
theorem dT_open_36 : decode cT_open 36 = .ok (.iload_n 2, 1) := by decide +kernel
theorem dT_open_37 : decode cT_open 37 = .ok (.ishl, 1) := by decide +kernel
theorem dT_open_38 : decode cT_open 38 = .ok (.ior, 1) := by decide +kernel
theorem dT_open_39 : decode cT_open 39 = .ok (.putfield 36, 3) := by decide +kernel
theorem dT_open_42 : decode cT_open 42 = .ok (.iload_n 1, 1) := by decide +kernel
theorem dT_open_43 : decode cT_open 43 = .ok (.ifCond .eq 15, 3) := by decide +kernel
theorem dT_open_46 : decode cT_open 46 = .ok (.aload_n 0, 1) := by decide +kernel
theorem dT_open_47 : decode cT_open 47 = .ok (.dup, 1) := by decide +kernel
theorem dT_open_48 : decode cT_open 48 = .ok (.getfield 39, 3) := by decide +kernel
theorem dT_open_51 : decode cT_open 51 = .ok (.iconst 1, 1) := by decide +kernel
theorem dT_open_52 : decode cT_open 52 = .ok (.iload_n 2, 1) := by decide +kernel
theorem dT_open_53 : decode cT_open 53 = .ok (.ishl, 1) := by decide +kernel
theorem dT_open_54 : decode cT_open 54 = .ok (.ior, 1) := by decide +kernel
theorem dT_open_55 : decode cT_open 55 = .ok (.putfield 39, 3) := by decide +kernel
theorem dT_open_58 : decode cT_open 58 = .ok (.iload_n 2, 1) := by decide +kernel
theorem dT_open_59 : decode cT_open 59 = .ok (.ireturn, 1) := by decide +kernel
theorem dT_open_60 : decode cT_open 60 = .ok (.iinc 2 1, 3) := by decide +kernel
theorem dT_open_63 : decode cT_open 63 = .ok (.goto (-46), 3) := by decide +kernel
theorem dT_open_66 : decode cT_open 66 = .ok (.bipush (-6), 2) := by decide +kernel
theorem dT_open_68 : decode cT_open 68 = .ok (.ireturn, 1) := by decide +kernel
theorem dT_close_0 : decode cT_close 0 = .ok (.aload_n 0, 1) := by decide +kernel
theorem dT_close_1 : decode cT_close 1 = .ok (.iload_n 1, 1) := by decide +kernel
theorem dT_close_2 : decode cT_close 2 = .ok (.invokevirtual 32, 3) := by decide +kernel
theorem dT_close_5 : decode cT_close 5 = .ok (.ifCond .ne 5, 3) := by decide +kernel
theorem dT_close_8 : decode cT_close 8 = .ok (.iconst (-1), 1) := by decide +kernel
theorem dT_close_9 : decode cT_close 9 = .ok (.ireturn, 1) := by decide +kernel
theorem dT_close_10 : decode cT_close 10 = .ok (.aload_n 0, 1) := by decide +kernel
theorem dT_close_11 : decode cT_close 11 = .ok (.dup, 1) := by decide +kernel
theorem dT_close_12 : decode cT_close 12 = .ok (.getfield 36, 3) := by decide +kernel
theorem dT_close_15 : decode cT_close 15 = .ok (.iconst 1, 1) := by decide +kernel
theorem dT_close_16 : decode cT_close 16 = .ok (.iload_n 1, 1) := by decide +kernel
theorem dT_close_17 : decode cT_close 17 = .ok (.ishl, 1) := by decide +kernel
theorem dT_close_18 : decode cT_close 18 = .ok (.iconst (-1), 1) := by decide +kernel
theorem dT_close_19 : decode cT_close 19 = .ok (.ixor, 1) := by decide +kernel
theorem dT_close_20 : decode cT_close 20 = .ok (.iand, 1) := by decide +kernel
theorem dT_close_21 : decode cT_close 21 = .ok (.putfield 36, 3) := by decide +kernel
theorem dT_close_24 : decode cT_close 24 = .ok (.aload_n 0, 1) := by decide +kernel
theorem dT_close_25 : decode cT_close 25 = .ok (.dup, 1) := by decide +kernel
theorem dT_close_26 : decode cT_close 26 = .ok (.getfield 39, 3) := by decide +kernel
theorem dT_close_29 : decode cT_close 29 = .ok (.iconst 1, 1) := by decide +kernel
theorem dT_close_30 : decode cT_close 30 = .ok (.iload_n 1, 1) := by decide +kernel
theorem dT_close_31 : decode cT_close 31 = .ok (.ishl, 1) := by decide +kernel
theorem dT_close_32 : decode cT_close 32 = .ok (.iconst (-1), 1) := by decide +kernel
theorem dT_close_33 : decode cT_close 33 = .ok (.ixor, 1) := by decide +kernel
theorem dT_close_34 : decode cT_close 34 = .ok (.iand, 1) := by decide +kernel
theorem dT_close_35 : decode cT_close 35 = .ok (.putfield 39, 3) := by decide +kernel
theorem dT_close_38 : decode cT_close 38 = .ok (.aload_n 0, 1) := by decide +kernel
theorem dT_close_39 : decode cT_close 39 = .ok (.getfield 24, 3) := by decide +kernel
theorem dT_close_42 : decode cT_close 42 = .ok (.iload_n 1, 1) := by decide +kernel
theorem dT_close_43 : decode cT_close 43 = .ok (.invokevirtual 42, 3) := by decide +kernel
theorem dT_close_46 : decode cT_close 46 = .ok (.aload_n 0, 1) := by decide +kernel
theorem dT_close_47 : decode cT_close 47 = .ok (.getfield 36, 3) := by decide +kernel
theorem dT_close_50 : decode cT_close 50 = .ok (.ifCond .ne 8, 3) := by decide +kernel
theorem dT_close_53 : decode cT_close 53 = .ok (.aload_n 0, 1) := by decide +kernel
theorem dT_close_54 : decode cT_close 54 = .ok (.iconst 0, 1) := by decide +kernel
theorem dT_close_55 : decode cT_close 55 = .ok (.putfield 28, 3) := by decide +kernel
theorem dT_close_58 : decode cT_close 58 = .ok (.iconst 0, 1) := by decide +kernel
theorem dT_close_59 : decode cT_close 59 = .ok (.ireturn, 1) := by decide +kernel
theorem dT_login_0 : decode cT_login 0 = .ok (.aload_n 0, 1) := by decide +kernel
theorem dT_login_1 : decode cT_login 1 = .ok (.iload_n 1, 1) := by decide +kernel
theorem dT_login_2 : decode cT_login 2 = .ok (.invokevirtual 32, 3) := by decide +kernel
theorem dT_login_5 : decode cT_login 5 = .ok (.ifCond .ne 5, 3) := by decide +kernel
theorem dT_login_8 : decode cT_login 8 = .ok (.iconst (-1), 1) := by decide +kernel
theorem dT_login_9 : decode cT_login 9 = .ok (.ireturn, 1) := by decide +kernel
theorem dT_login_10 : decode cT_login 10 = .ok (.aload_n 0, 1) := by decide +kernel
theorem dT_login_11 : decode cT_login 11 = .ok (.getfield 28, 3) := by decide +kernel
theorem dT_login_14 : decode cT_login 14 = .ok (.ifCond .eq 6, 3) := by decide +kernel
theorem dT_login_17 : decode cT_login 17 = .ok (.bipush (-3), 2) := by decide +kernel
theorem dT_login_19 : decode cT_login 19 = .ok (.ireturn, 1) := by decide +kernel
theorem dT_login_20 : decode cT_login 20 = .ok (.iload_n 2, 1) := by decide +kernel
theorem dT_login_21 : decode cT_login 21 = .ok (.ifCond .eq 17, 3) := by decide +kernel
theorem dT_login_24 : decode cT_login 24 = .ok (.aload_n 0, 1) := by decide +kernel
theorem dT_login_25 : decode cT_login 25 = .ok (.getfield 36, 3) := by decide +kernel
theorem dT_login_28 : decode cT_login 28 = .ok (.aload_n 0, 1) := by decide +kernel
theorem dT_login_29 : decode cT_login 29 = .ok (.getfield 39, 3) := by decide +kernel
theorem dT_login_32 : decode cT_login 32 = .ok (.if_icmp .eq 6, 3) := by decide +kernel
theorem dT_login_35 : decode cT_login 35 = .ok (.bipush (-4), 2) := by decide +kernel
theorem dT_login_37 : decode cT_login 37 = .ok (.ireturn, 1) := by decide +kernel
theorem dT_login_38 : decode cT_login 38 = .ok (.iload_n 2, 1) := by decide +kernel
theorem dT_login_39 : decode cT_login 39 = .ok (.ifCond .eq 10, 3) := by decide +kernel
theorem dT_login_42 : decode cT_login 42 = .ok (.aload_n 0, 1) := by decide +kernel
theorem dT_login_43 : decode cT_login 43 = .ok (.getfield 18, 3) := by decide +kernel
theorem dT_login_46 : decode cT_login 46 = .ok (.goto 7, 3) := by decide +kernel
theorem dT_login_49 : decode cT_login 49 = .ok (.aload_n 0, 1) := by decide +kernel
theorem dT_login_50 : decode cT_login 50 = .ok (.getfield 14, 3) := by decide +kernel
theorem dT_login_53 : decode cT_login 53 = .ok (.astore 4, 2) := by decide +kernel
theorem dT_login_55 : decode cT_login 55 = .ok (.aload 4, 2) := by decide +kernel
theorem dT_login_57 : decode cT_login 57 = .ok (.iload_n 3, 1) := by decide +kernel
theorem dT_login_58 : decode cT_login 58 = .ok (.invokevirtual 45, 3) := by decide +kernel
theorem dT_login_61 : decode cT_login 61 = .ok (.istore 5, 2) := by decide +kernel
theorem dT_login_63 : decode cT_login 63 = .ok (.iload 5, 2) := by decide +kernel
theorem dT_login_65 : decode cT_login 65 = .ok (.ifCond .ne 16, 3) := by decide +kernel
theorem dT_login_68 : decode cT_login 68 = .ok (.aload_n 0, 1) := by decide +kernel
theorem dT_login_69 : decode cT_login 69 = .ok (.iload_n 2, 1) := by decide +kernel
theorem dT_login_70 : decode cT_login 70 = .ok (.ifCond .eq 7, 3) := by decide +kernel
theorem dT_login_73 : decode cT_login 73 = .ok (.iconst 2, 1) := by decide +kernel
theorem dT_login_74 : decode cT_login 74 = .ok (.goto 4, 3) := by decide +kernel
theorem dT_login_77 : decode cT_login 77 = .ok (.iconst 1, 1) := by decide +kernel
theorem dT_login_78 : decode cT_login 78 = .ok (.putfield 28, 3) := by decide +kernel
theorem dT_login_81 : decode cT_login 81 = .ok (.iload 5, 2) := by decide +kernel
theorem dT_login_83 : decode cT_login 83 = .ok (.ireturn, 1) := by decide +kernel
theorem dT_logout_0 : decode cT_logout 0 = .ok (.aload_n 0, 1) := by decide +kernel
theorem dT_logout_1 : decode cT_logout 1 = .ok (.iload_n 1, 1) := by decide +kernel
theorem dT_logout_2 : decode cT_logout 2 = .ok (.invokevirtual 32, 3) := by decide +kernel
theorem dT_logout_5 : decode cT_logout 5 = .ok (.ifCond .ne 5, 3) := by decide +kernel
theorem dT_logout_8 : decode cT_logout 8 = .ok (.iconst (-1), 1) := by decide +kernel
theorem dT_logout_9 : decode cT_logout 9 = .ok (.ireturn, 1) := by decide +kernel
theorem dT_logout_10 : decode cT_logout 10 = .ok (.aload_n 0, 1) := by decide +kernel
theorem dT_logout_11 : decode cT_logout 11 = .ok (.getfield 28, 3) := by decide +kernel
theorem dT_logout_14 : decode cT_logout 14 = .ok (.ifCond .ne 6, 3) := by decide +kernel
theorem dT_logout_17 : decode cT_logout 17 = .ok (.bipush (-3), 2) := by decide +kernel
theorem dT_logout_19 : decode cT_logout 19 = .ok (.ireturn, 1) := by decide +kernel
theorem dT_logout_20 : decode cT_logout 20 = .ok (.aload_n 0, 1) := by decide +kernel
theorem dT_logout_21 : decode cT_logout 21 = .ok (.iconst 0, 1) := by decide +kernel
theorem dT_logout_22 : decode cT_logout 22 = .ok (.putfield 28, 3) := by decide +kernel
theorem dT_logout_25 : decode cT_logout 25 = .ok (.aload_n 0, 1) := by decide +kernel
theorem dT_logout_26 : decode cT_logout 26 = .ok (.getfield 24, 3) := by decide +kernel
theorem dT_logout_29 : decode cT_logout 29 = .ok (.invokevirtual 49, 3) := by decide +kernel
theorem dT_logout_32 : decode cT_logout 32 = .ok (.iconst 0, 1) := by decide +kernel
theorem dT_logout_33 : decode cT_logout 33 = .ok (.ireturn, 1) := by decide +kernel
theorem dT_unlock_0 : decode cT_unlock 0 = .ok (.aload_n 0, 1) := by decide +kernel
theorem dT_unlock_1 : decode cT_unlock 1 = .ok (.iload_n 1, 1) := by decide +kernel
theorem dT_unlock_2 : decode cT_unlock 2 = .ok (.invokevirtual 32, 3) := by decide +kernel
theorem dT_unlock_5 : decode cT_unlock 5 = .ok (.ifCond .ne 5, 3) := by decide +kernel
theorem dT_unlock_8 : decode cT_unlock 8 = .ok (.iconst (-1), 1) := by decide +kernel
theorem dT_unlock_9 : decode cT_unlock 9 = .ok (.ireturn, 1) := by decide +kernel
theorem dT_unlock_10 : decode cT_unlock 10 = .ok (.aload_n 0, 1) := by decide +kernel
theorem dT_unlock_11 : decode cT_unlock 11 = .ok (.getfield 28, 3) := by decide +kernel
theorem dT_unlock_14 : decode cT_unlock 14 = .ok (.iconst 2, 1) := by decide +kernel
theorem dT_unlock_15 : decode cT_unlock 15 = .ok (.if_icmp .eq 6, 3) := by decide +kernel
theorem dT_unlock_18 : decode cT_unlock 18 = .ok (.bipush (-3), 2) := by decide +kernel
theorem dT_unlock_20 : decode cT_unlock 20 = .ok (.ireturn, 1) := by decide +kernel
theorem dT_unlock_21 : decode cT_unlock 21 = .ok (.aload_n 0, 1) := by decide +kernel
theorem dT_unlock_22 : decode cT_unlock 22 = .ok (.getfield 14, 3) := by decide +kernel
theorem dT_unlock_25 : decode cT_unlock 25 = .ok (.iload_n 2, 1) := by decide +kernel
theorem dT_unlock_26 : decode cT_unlock 26 = .ok (.invokevirtual 52, 3) := by decide +kernel
theorem dT_unlock_29 : decode cT_unlock 29 = .ok (.iconst 0, 1) := by decide +kernel
theorem dT_unlock_30 : decode cT_unlock 30 = .ok (.ireturn, 1) := by decide +kernel
theorem dT_create_0 : decode cT_create 0 = .ok (.aload_n 0, 1) := by decide +kernel
theorem dT_create_1 : decode cT_create 1 = .ok (.iload_n 1, 1) := by decide +kernel
theorem dT_create_2 : decode cT_create 2 = .ok (.iload_n 2, 1) := by decide +kernel
theorem dT_create_3 : decode cT_create 3 = .ok (.iconst 1, 1) := by decide +kernel
theorem dT_create_4 : decode cT_create 4 = .ok (.invokevirtual 55, 3) := by decide +kernel
theorem dT_create_7 : decode cT_create 7 = .ok (.istore 4, 2) := by decide +kernel
theorem dT_create_9 : decode cT_create 9 = .ok (.iload 4, 2) := by decide +kernel
theorem dT_create_11 : decode cT_create 11 = .ok (.ifCond .eq 6, 3) := by decide +kernel
theorem dT_create_14 : decode cT_create 14 = .ok (.iload 4, 2) := by decide +kernel
theorem dT_create_16 : decode cT_create 16 = .ok (.ireturn, 1) := by decide +kernel
theorem dT_create_17 : decode cT_create 17 = .ok (.aload_n 0, 1) := by decide +kernel
theorem dT_create_18 : decode cT_create 18 = .ok (.getfield 24, 3) := by decide +kernel
theorem dT_create_21 : decode cT_create 21 = .ok (.iload_n 2, 1) := by decide +kernel
theorem dT_create_22 : decode cT_create 22 = .ok (.iload_n 3, 1) := by decide +kernel
theorem dT_create_23 : decode cT_create 23 = .ok (.iload_n 1, 1) := by decide +kernel
theorem dT_create_24 : decode cT_create 24 = .ok (.invokevirtual 59, 3) := by decide +kernel
theorem dT_create_27 : decode cT_create 27 = .ok (.ireturn, 1) := by decide +kernel
theorem dT_generate_0 : decode cT_generate 0 = .ok (.aload_n 0, 1) := by decide +kernel
theorem dT_generate_1 : decode cT_generate 1 = .ok (.iload_n 1, 1) := by decide +kernel
theorem dT_generate_2 : decode cT_generate 2 = .ok (.iload_n 2, 1) := by decide +kernel
theorem dT_generate_3 : decode cT_generate 3 = .ok (.iconst 1, 1) := by decide +kernel
theorem dT_generate_4 : decode cT_generate 4 = .ok (.invokevirtual 55, 3) := by decide +kernel
theorem dT_generate_7 : decode cT_generate 7 = .ok (.istore_n 3, 1) := by decide +kernel
theorem dT_generate_8 : decode cT_generate 8 = .ok (.iload_n 3, 1) := by decide +kernel
theorem dT_generate_9 : decode cT_generate 9 = .ok (.ifCond .eq 5, 3) := by decide +kernel
theorem dT_generate_12 : decode cT_generate 12 = .ok (.iload_n 3, 1) := by decide +kernel
theorem dT_generate_13 : decode cT_generate 13 = .ok (.ireturn, 1) := by decide +kernel
theorem dT_generate_14 : decode cT_generate 14 = .ok (.aload_n 0, 1) := by decide +kernel
theorem dT_generate_15 : decode cT_generate 15 = .ok (.getfield 63, 3) := by decide +kernel
theorem dT_generate_18 : decode cT_generate 18 = .ok (.ldc 66, 2) := by decide +kernel
theorem dT_generate_20 : decode cT_generate 20 = .ok (.invokestatic 67, 3) := by decide +kernel
theorem dT_generate_23 : decode cT_generate 23 = .ok (.istore 4, 2) := by decide +kernel
theorem dT_generate_25 : decode cT_generate 25 = .ok (.aload_n 0, 1) := by decide +kernel
theorem dT_generate_26 : decode cT_generate 26 = .ok (.dup, 1) := by decide +kernel
theorem dT_generate_27 : decode cT_generate 27 = .ok (.getfield 63, 3) := by decide +kernel
theorem dT_generate_30 : decode cT_generate 30 = .ok (.iconst 1, 1) := by decide +kernel
theorem dT_generate_31 : decode cT_generate 31 = .ok (.iadd, 1) := by decide +kernel
theorem dT_generate_32 : decode cT_generate 32 = .ok (.putfield 63, 3) := by decide +kernel
theorem dT_generate_35 : decode cT_generate 35 = .ok (.aload_n 0, 1) := by decide +kernel
theorem dT_generate_36 : decode cT_generate 36 = .ok (.getfield 24, 3) := by decide +kernel
theorem dT_generate_39 : decode cT_generate 39 = .ok (.iload_n 2, 1) := by decide +kernel
theorem dT_generate_40 : decode cT_generate 40 = .ok (.iload_n 2, 1) := by decide +kernel
theorem dT_generate_41 : decode cT_generate 41 = .ok (.invokestatic 73, 3) := by decide +kernel
theorem dT_generate_44 : decode cT_generate 44 = .ok (.ior, 1) := by decide +kernel
theorem dT_generate_45 : decode cT_generate 45 = .ok (.iload 4, 2) := by decide +kernel
theorem dT_generate_47 : decode cT_generate 47 = .ok (.iload_n 1, 1) := by decide +kernel
theorem dT_generate_48 : decode cT_generate 48 = .ok (.invokevirtual 59, 3) := by decide +kernel
theorem dT_generate_51 : decode cT_generate 51 = .ok (.ireturn, 1) := by decide +kernel
theorem dT_destroy_0 : decode cT_destroy 0 = .ok (.aload_n 0, 1) := by decide +kernel
theorem dT_destroy_1 : decode cT_destroy 1 = .ok (.iload_n 1, 1) := by decide +kernel
theorem dT_destroy_2 : decode cT_destroy 2 = .ok (.iload_n 2, 1) := by decide +kernel
theorem dT_destroy_3 : decode cT_destroy 3 = .ok (.invokevirtual 76, 3) := by decide +kernel
theorem dT_destroy_6 : decode cT_destroy 6 = .ok (.istore_n 3, 1) := by decide +kernel
theorem dT_destroy_7 : decode cT_destroy 7 = .ok (.iload_n 3, 1) := by decide +kernel
theorem dT_destroy_8 : decode cT_destroy 8 = .ok (.ifCond .ge 5, 3) := by decide +kernel
theorem dT_destroy_11 : decode cT_destroy 11 = .ok (.iload_n 3, 1) := by decide +kernel
theorem dT_destroy_12 : decode cT_destroy 12 = .ok (.ireturn, 1) := by decide +kernel
theorem dT_destroy_13 : decode cT_destroy 13 = .ok (.aload_n 0, 1) := by decide +kernel
theorem dT_destroy_14 : decode cT_destroy 14 = .ok (.iload_n 1, 1) := by decide +kernel
theorem dT_destroy_15 : decode cT_destroy 15 = .ok (.iload_n 3, 1) := by decide +kernel
theorem dT_destroy_16 : decode cT_destroy 16 = .ok (.invokevirtual 79, 3) := by decide +kernel
theorem dT_destroy_19 : decode cT_destroy 19 = .ok (.ifCond .eq 6, 3) := by decide +kernel
theorem dT_destroy_22 : decode cT_destroy 22 = .ok (.bipush (-4), 2) := by decide +kernel
theorem dT_destroy_24 : decode cT_destroy 24 = .ok (.ireturn, 1) := by decide +kernel
theorem dT_destroy_25 : decode cT_destroy 25 = .ok (.aload_n 0, 1) := by decide +kernel
theorem dT_destroy_26 : decode cT_destroy 26 = .ok (.getfield 24, 3) := by decide +kernel
theorem dT_destroy_29 : decode cT_destroy 29 = .ok (.iload_n 3, 1) := by decide +kernel
theorem dT_destroy_30 : decode cT_destroy 30 = .ok (.invokevirtual 83, 3) := by decide +kernel
theorem dT_destroy_33 : decode cT_destroy 33 = .ok (.iconst 0, 1) := by decide +kernel
theorem dT_destroy_34 : decode cT_destroy 34 = .ok (.ireturn, 1) := by decide +kernel
theorem dT_attributes_0 : decode cT_attributes 0 = .ok (.aload_n 0, 1) := by decide +kernel
theorem dT_attributes_1 : decode cT_attributes 1 = .ok (.iload_n 1, 1) := by decide +kernel
theorem dT_attributes_2 : decode cT_attributes 2 = .ok (.iload_n 2, 1) := by decide +kernel
theorem dT_attributes_3 : decode cT_attributes 3 = .ok (.invokevirtual 76, 3) := by decide +kernel
theorem dT_attributes_6 : decode cT_attributes 6 = .ok (.istore_n 3, 1) := by decide +kernel
theorem dT_attributes_7 : decode cT_attributes 7 = .ok (.iload_n 3, 1) := by decide +kernel
theorem dT_attributes_8 : decode cT_attributes 8 = .ok (.ifCond .ge 7, 3) := by decide +kernel
theorem dT_attributes_11 : decode cT_attributes 11 = .ok (.iload_n 3, 1) := by decide +kernel
theorem dT_attributes_12 : decode cT_attributes 12 = .ok (.goto 12, 3) := by decide +kernel
theorem dT_attributes_15 : decode cT_attributes 15 = .ok (.aload_n 0, 1) := by decide +kernel
theorem dT_attributes_16 : decode cT_attributes 16 = .ok (.getfield 24, 3) := by decide +kernel
theorem dT_attributes_19 : decode cT_attributes 19 = .ok (.getfield 86, 3) := by decide +kernel
theorem dT_attributes_22 : decode cT_attributes 22 = .ok (.iload_n 3, 1) := by decide +kernel
theorem dT_attributes_23 : decode cT_attributes 23 = .ok (.iaload, 1) := by decide +kernel
theorem dT_attributes_24 : decode cT_attributes 24 = .ok (.ireturn, 1) := by decide +kernel
theorem dT_limit_0 : decode cT_limit 0 = .ok (.aload_n 0, 1) := by decide +kernel
theorem dT_limit_1 : decode cT_limit 1 = .ok (.iload_n 1, 1) := by decide +kernel
theorem dT_limit_2 : decode cT_limit 2 = .ok (.iload_n 2, 1) := by decide +kernel
theorem dT_limit_3 : decode cT_limit 3 = .ok (.invokevirtual 76, 3) := by decide +kernel
theorem dT_limit_6 : decode cT_limit 6 = .ok (.istore 4, 2) := by decide +kernel
theorem dT_limit_8 : decode cT_limit 8 = .ok (.iload 4, 2) := by decide +kernel
theorem dT_limit_10 : decode cT_limit 10 = .ok (.ifCond .ge 6, 3) := by decide +kernel
theorem dT_limit_13 : decode cT_limit 13 = .ok (.iload 4, 2) := by decide +kernel
theorem dT_limit_15 : decode cT_limit 15 = .ok (.ireturn, 1) := by decide +kernel
theorem dT_limit_16 : decode cT_limit 16 = .ok (.aload_n 0, 1) := by decide +kernel
theorem dT_limit_17 : decode cT_limit 17 = .ok (.iload_n 1, 1) := by decide +kernel
theorem dT_limit_18 : decode cT_limit 18 = .ok (.iload 4, 2) := by decide +kernel
theorem dT_limit_20 : decode cT_limit 20 = .ok (.invokevirtual 79, 3) := by decide +kernel
theorem dT_limit_23 : decode cT_limit 23 = .ok (.ifCond .eq 6, 3) := by decide +kernel
theorem dT_limit_26 : decode cT_limit 26 = .ok (.bipush (-4), 2) := by decide +kernel
theorem dT_limit_28 : decode cT_limit 28 = .ok (.ireturn, 1) := by decide +kernel
theorem dT_limit_29 : decode cT_limit 29 = .ok (.iload_n 3, 1) := by decide +kernel
theorem dT_limit_30 : decode cT_limit 30 = .ok (.ifCond .eq 11, 3) := by decide +kernel
theorem dT_limit_33 : decode cT_limit 33 = .ok (.iload_n 3, 1) := by decide +kernel
theorem dT_limit_34 : decode cT_limit 34 = .ok (.sipush (-509), 3) := by decide +kernel
theorem dT_limit_37 : decode cT_limit 37 = .ok (.iand, 1) := by decide +kernel
theorem dT_limit_38 : decode cT_limit 38 = .ok (.ifCond .eq 6, 3) := by decide +kernel
theorem dT_limit_41 : decode cT_limit 41 = .ok (.bipush (-5), 2) := by decide +kernel
theorem dT_limit_43 : decode cT_limit 43 = .ok (.ireturn, 1) := by decide +kernel
theorem dT_limit_44 : decode cT_limit 44 = .ok (.aload_n 0, 1) := by decide +kernel
theorem dT_limit_45 : decode cT_limit 45 = .ok (.getfield 24, 3) := by decide +kernel
theorem dT_limit_48 : decode cT_limit 48 = .ok (.getfield 86, 3) := by decide +kernel
theorem dT_limit_51 : decode cT_limit 51 = .ok (.iload 4, 2) := by decide +kernel
theorem dT_limit_53 : decode cT_limit 53 = .ok (.iaload, 1) := by decide +kernel
theorem dT_limit_54 : decode cT_limit 54 = .ok (.iload_n 3, 1) := by decide +kernel
theorem dT_limit_55 : decode cT_limit 55 = .ok (.sipush 504, 3) := by decide +kernel
theorem dT_limit_58 : decode cT_limit 58 = .ok (.iand, 1) := by decide +kernel
theorem dT_limit_59 : decode cT_limit 59 = .ok (.iconst (-1), 1) := by decide +kernel
theorem dT_limit_60 : decode cT_limit 60 = .ok (.ixor, 1) := by decide +kernel
theorem dT_limit_61 : decode cT_limit 61 = .ok (.iand, 1) := by decide +kernel
theorem dT_limit_62 : decode cT_limit 62 = .ok (.istore 5, 2) := by decide +kernel
theorem dT_limit_64 : decode cT_limit 64 = .ok (.aload_n 0, 1) := by decide +kernel
theorem dT_limit_65 : decode cT_limit 65 = .ok (.getfield 24, 3) := by decide +kernel
theorem dT_limit_68 : decode cT_limit 68 = .ok (.getfield 86, 3) := by decide +kernel
theorem dT_limit_71 : decode cT_limit 71 = .ok (.iload 4, 2) := by decide +kernel
theorem dT_limit_73 : decode cT_limit 73 = .ok (.iload 5, 2) := by decide +kernel
theorem dT_limit_75 : decode cT_limit 75 = .ok (.iload_n 3, 1) := by decide +kernel
theorem dT_limit_76 : decode cT_limit 76 = .ok (.iconst 4, 1) := by decide +kernel
theorem dT_limit_77 : decode cT_limit 77 = .ok (.iand, 1) := by decide +kernel
theorem dT_limit_78 : decode cT_limit 78 = .ok (.ior, 1) := by decide +kernel
theorem dT_limit_79 : decode cT_limit 79 = .ok (.iastore, 1) := by decide +kernel
theorem dT_limit_80 : decode cT_limit 80 = .ok (.aload_n 0, 1) := by decide +kernel
theorem dT_limit_81 : decode cT_limit 81 = .ok (.getfield 24, 3) := by decide +kernel
theorem dT_limit_84 : decode cT_limit 84 = .ok (.getfield 86, 3) := by decide +kernel
theorem dT_limit_87 : decode cT_limit 87 = .ok (.iload 4, 2) := by decide +kernel
theorem dT_limit_89 : decode cT_limit 89 = .ok (.iaload, 1) := by decide +kernel
theorem dT_limit_90 : decode cT_limit 90 = .ok (.ireturn, 1) := by decide +kernel
theorem dT_trust_0 : decode cT_trust 0 = .ok (.aload_n 0, 1) := by decide +kernel
theorem dT_trust_1 : decode cT_trust 1 = .ok (.iload_n 1, 1) := by decide +kernel
theorem dT_trust_2 : decode cT_trust 2 = .ok (.iload_n 2, 1) := by decide +kernel
theorem dT_trust_3 : decode cT_trust 3 = .ok (.invokevirtual 76, 3) := by decide +kernel
theorem dT_trust_6 : decode cT_trust 6 = .ok (.istore_n 3, 1) := by decide +kernel
theorem dT_trust_7 : decode cT_trust 7 = .ok (.iload_n 3, 1) := by decide +kernel
theorem dT_trust_8 : decode cT_trust 8 = .ok (.ifCond .ge 5, 3) := by decide +kernel
theorem dT_trust_11 : decode cT_trust 11 = .ok (.iload_n 3, 1) := by decide +kernel
theorem dT_trust_12 : decode cT_trust 12 = .ok (.ireturn, 1) := by decide +kernel
theorem dT_trust_13 : decode cT_trust 13 = .ok (.aload_n 0, 1) := by decide +kernel
theorem dT_trust_14 : decode cT_trust 14 = .ok (.getfield 28, 3) := by decide +kernel
theorem dT_trust_17 : decode cT_trust 17 = .ok (.iconst 2, 1) := by decide +kernel
theorem dT_trust_18 : decode cT_trust 18 = .ok (.if_icmp .eq 6, 3) := by decide +kernel
theorem dT_trust_21 : decode cT_trust 21 = .ok (.bipush (-3), 2) := by decide +kernel
theorem dT_trust_23 : decode cT_trust 23 = .ok (.ireturn, 1) := by decide +kernel
theorem dT_trust_24 : decode cT_trust 24 = .ok (.aload_n 0, 1) := by decide +kernel
theorem dT_trust_25 : decode cT_trust 25 = .ok (.iload_n 1, 1) := by decide +kernel
theorem dT_trust_26 : decode cT_trust 26 = .ok (.iload_n 3, 1) := by decide +kernel
theorem dT_trust_27 : decode cT_trust 27 = .ok (.invokevirtual 79, 3) := by decide +kernel
theorem dT_trust_30 : decode cT_trust 30 = .ok (.ifCond .eq 6, 3) := by decide +kernel
theorem dT_trust_33 : decode cT_trust 33 = .ok (.bipush (-4), 2) := by decide +kernel
theorem dT_trust_35 : decode cT_trust 35 = .ok (.ireturn, 1) := by decide +kernel
theorem dT_trust_36 : decode cT_trust 36 = .ok (.aload_n 0, 1) := by decide +kernel
theorem dT_trust_37 : decode cT_trust 37 = .ok (.getfield 24, 3) := by decide +kernel
theorem dT_trust_40 : decode cT_trust 40 = .ok (.iload_n 3, 1) := by decide +kernel
theorem dT_trust_41 : decode cT_trust 41 = .ok (.iconst 1, 1) := by decide +kernel
theorem dT_trust_42 : decode cT_trust 42 = .ok (.invokevirtual 90, 3) := by decide +kernel
theorem dT_trust_45 : decode cT_trust 45 = .ok (.ifCond .eq 17, 3) := by decide +kernel
theorem dT_trust_48 : decode cT_trust 48 = .ok (.aload_n 0, 1) := by decide +kernel
theorem dT_trust_49 : decode cT_trust 49 = .ok (.getfield 24, 3) := by decide +kernel
theorem dT_trust_52 : decode cT_trust 52 = .ok (.iload_n 3, 1) := by decide +kernel
theorem dT_trust_53 : decode cT_trust 53 = .ok (.sipush 128, 3) := by decide +kernel
theorem dT_trust_56 : decode cT_trust 56 = .ok (.invokevirtual 90, 3) := by decide +kernel
theorem dT_trust_59 : decode cT_trust 59 = .ok (.ifCond .ne 6, 3) := by decide +kernel
theorem dT_trust_62 : decode cT_trust 62 = .ok (.bipush (-5), 2) := by decide +kernel
theorem dT_trust_64 : decode cT_trust 64 = .ok (.ireturn, 1) := by decide +kernel
theorem dT_trust_65 : decode cT_trust 65 = .ok (.aload_n 0, 1) := by decide +kernel
theorem dT_trust_66 : decode cT_trust 66 = .ok (.getfield 24, 3) := by decide +kernel
theorem dT_trust_69 : decode cT_trust 69 = .ok (.getfield 86, 3) := by decide +kernel
theorem dT_trust_72 : decode cT_trust 72 = .ok (.iload_n 3, 1) := by decide +kernel
theorem dT_trust_73 : decode cT_trust 73 = .ok (.dup2, 1) := by decide +kernel
theorem dT_trust_74 : decode cT_trust 74 = .ok (.iaload, 1) := by decide +kernel
theorem dT_trust_75 : decode cT_trust 75 = .ok (.sipush 512, 3) := by decide +kernel
theorem dT_trust_78 : decode cT_trust 78 = .ok (.ior, 1) := by decide +kernel
theorem dT_trust_79 : decode cT_trust 79 = .ok (.iastore, 1) := by decide +kernel
theorem dT_trust_80 : decode cT_trust 80 = .ok (.iconst 0, 1) := by decide +kernel
theorem dT_trust_81 : decode cT_trust 81 = .ok (.ireturn, 1) := by decide +kernel
theorem dT_read_0 : decode cT_read 0 = .ok (.aload_n 0, 1) := by decide +kernel
theorem dT_read_1 : decode cT_read 1 = .ok (.iload_n 1, 1) := by decide +kernel
theorem dT_read_2 : decode cT_read 2 = .ok (.iload_n 2, 1) := by decide +kernel
theorem dT_read_3 : decode cT_read 3 = .ok (.invokevirtual 76, 3) := by decide +kernel
theorem dT_read_6 : decode cT_read 6 = .ok (.istore_n 3, 1) := by decide +kernel
theorem dT_read_7 : decode cT_read 7 = .ok (.iload_n 3, 1) := by decide +kernel
theorem dT_read_8 : decode cT_read 8 = .ok (.ifCond .ge 6, 3) := by decide +kernel
theorem dT_read_11 : decode cT_read 11 = .ok (.iload_n 3, 1) := by decide +kernel
theorem dT_read_12 : decode cT_read 12 = .ok (.i2l, 1) := by decide +kernel
theorem dT_read_13 : decode cT_read 13 = .ok (.lreturn, 1) := by decide +kernel
theorem dT_read_14 : decode cT_read 14 = .ok (.aload_n 0, 1) := by decide +kernel
theorem dT_read_15 : decode cT_read 15 = .ok (.getfield 24, 3) := by decide +kernel
theorem dT_read_18 : decode cT_read 18 = .ok (.iload_n 3, 1) := by decide +kernel
theorem dT_read_19 : decode cT_read 19 = .ok (.iconst 4, 1) := by decide +kernel
theorem dT_read_20 : decode cT_read 20 = .ok (.invokevirtual 90, 3) := by decide +kernel
theorem dT_read_23 : decode cT_read 23 = .ok (.ifCond .eq 7, 3) := by decide +kernel
theorem dT_read_26 : decode cT_read 26 = .ok (.ldc2_w 93, 3) := by decide +kernel
theorem dT_read_29 : decode cT_read 29 = .ok (.lreturn, 1) := by decide +kernel
theorem dT_read_30 : decode cT_read 30 = .ok (.aload_n 0, 1) := by decide +kernel
theorem dT_read_31 : decode cT_read 31 = .ok (.getfield 24, 3) := by decide +kernel
theorem dT_read_34 : decode cT_read 34 = .ok (.getfield 95, 3) := by decide +kernel
theorem dT_read_37 : decode cT_read 37 = .ok (.iload_n 3, 1) := by decide +kernel
theorem dT_read_38 : decode cT_read 38 = .ok (.iaload, 1) := by decide +kernel
theorem dT_read_39 : decode cT_read 39 = .ok (.invokestatic 98, 3) := by decide +kernel
theorem dT_read_42 : decode cT_read 42 = .ok (.lreturn, 1) := by decide +kernel
theorem dT_encrypt_0 : decode cT_encrypt 0 = .ok (.aload_n 0, 1) := by decide +kernel
theorem dT_encrypt_1 : decode cT_encrypt 1 = .ok (.iload_n 1, 1) := by decide +kernel
theorem dT_encrypt_2 : decode cT_encrypt 2 = .ok (.iload_n 2, 1) := by decide +kernel
theorem dT_encrypt_3 : decode cT_encrypt 3 = .ok (.bipush 16, 2) := by decide +kernel
theorem dT_encrypt_5 : decode cT_encrypt 5 = .ok (.invokevirtual 102, 3) := by decide +kernel
theorem dT_encrypt_8 : decode cT_encrypt 8 = .ok (.istore 4, 2) := by decide +kernel
theorem dT_encrypt_10 : decode cT_encrypt 10 = .ok (.iload 4, 2) := by decide +kernel
theorem dT_encrypt_12 : decode cT_encrypt 12 = .ok (.ifCond .ge 9, 3) := by decide +kernel
theorem dT_encrypt_15 : decode cT_encrypt 15 = .ok (.iload 4, 2) := by decide +kernel
theorem dT_encrypt_17 : decode cT_encrypt 17 = .ok (.i2l, 1) := by decide +kernel
theorem dT_encrypt_18 : decode cT_encrypt 18 = .ok (.goto 20, 3) := by decide +kernel
theorem dT_encrypt_21 : decode cT_encrypt 21 = .ok (.aload_n 0, 1) := by decide +kernel
theorem dT_encrypt_22 : decode cT_encrypt 22 = .ok (.getfield 24, 3) := by decide +kernel
theorem dT_encrypt_25 : decode cT_encrypt 25 = .ok (.getfield 95, 3) := by decide +kernel
theorem dT_encrypt_28 : decode cT_encrypt 28 = .ok (.iload 4, 2) := by decide +kernel
theorem dT_encrypt_30 : decode cT_encrypt 30 = .ok (.iaload, 1) := by decide +kernel
theorem dT_encrypt_31 : decode cT_encrypt 31 = .ok (.iload_n 3, 1) := by decide +kernel
theorem dT_encrypt_32 : decode cT_encrypt 32 = .ok (.invokestatic 105, 3) := by decide +kernel
theorem dT_encrypt_35 : decode cT_encrypt 35 = .ok (.invokestatic 98, 3) := by decide +kernel
theorem dT_encrypt_38 : decode cT_encrypt 38 = .ok (.lreturn, 1) := by decide +kernel
theorem dT_decrypt_0 : decode cT_decrypt 0 = .ok (.aload_n 0, 1) := by decide +kernel
theorem dT_decrypt_1 : decode cT_decrypt 1 = .ok (.iload_n 1, 1) := by decide +kernel
theorem dT_decrypt_2 : decode cT_decrypt 2 = .ok (.iload_n 2, 1) := by decide +kernel
theorem dT_decrypt_3 : decode cT_decrypt 3 = .ok (.bipush 32, 2) := by decide +kernel
theorem dT_decrypt_5 : decode cT_decrypt 5 = .ok (.invokevirtual 102, 3) := by decide +kernel
theorem dT_decrypt_8 : decode cT_decrypt 8 = .ok (.istore 4, 2) := by decide +kernel
theorem dT_decrypt_10 : decode cT_decrypt 10 = .ok (.iload 4, 2) := by decide +kernel
theorem dT_decrypt_12 : decode cT_decrypt 12 = .ok (.ifCond .ge 9, 3) := by decide +kernel
theorem dT_decrypt_15 : decode cT_decrypt 15 = .ok (.iload 4, 2) := by decide +kernel
theorem dT_decrypt_17 : decode cT_decrypt 17 = .ok (.i2l, 1) := by decide +kernel
theorem dT_decrypt_18 : decode cT_decrypt 18 = .ok (.goto 20, 3) := by decide +kernel
theorem dT_decrypt_21 : decode cT_decrypt 21 = .ok (.aload_n 0, 1) := by decide +kernel
theorem dT_decrypt_22 : decode cT_decrypt 22 = .ok (.getfield 24, 3) := by decide +kernel
theorem dT_decrypt_25 : decode cT_decrypt 25 = .ok (.getfield 95, 3) := by decide +kernel
theorem dT_decrypt_28 : decode cT_decrypt 28 = .ok (.iload 4, 2) := by decide +kernel
theorem dT_decrypt_30 : decode cT_decrypt 30 = .ok (.iaload, 1) := by decide +kernel
theorem dT_decrypt_31 : decode cT_decrypt 31 = .ok (.iload_n 3, 1) := by decide +kernel
theorem dT_decrypt_32 : decode cT_decrypt 32 = .ok (.invokestatic 108, 3) := by decide +kernel
theorem dT_decrypt_35 : decode cT_decrypt 35 = .ok (.invokestatic 98, 3) := by decide +kernel
theorem dT_decrypt_38 : decode cT_decrypt 38 = .ok (.lreturn, 1) := by decide +kernel
theorem dT_sign_0 : decode cT_sign 0 = .ok (.aload_n 0, 1) := by decide +kernel
theorem dT_sign_1 : decode cT_sign 1 = .ok (.iload_n 1, 1) := by decide +kernel
theorem dT_sign_2 : decode cT_sign 2 = .ok (.iload_n 2, 1) := by decide +kernel
theorem dT_sign_3 : decode cT_sign 3 = .ok (.bipush 64, 2) := by decide +kernel
theorem dT_sign_5 : decode cT_sign 5 = .ok (.invokevirtual 102, 3) := by decide +kernel
theorem dT_sign_8 : decode cT_sign 8 = .ok (.istore 4, 2) := by decide +kernel
theorem dT_sign_10 : decode cT_sign 10 = .ok (.iload 4, 2) := by decide +kernel
theorem dT_sign_12 : decode cT_sign 12 = .ok (.ifCond .ge 9, 3) := by decide +kernel
theorem dT_sign_15 : decode cT_sign 15 = .ok (.iload 4, 2) := by decide +kernel
theorem dT_sign_17 : decode cT_sign 17 = .ok (.i2l, 1) := by decide +kernel
theorem dT_sign_18 : decode cT_sign 18 = .ok (.goto 20, 3) := by decide +kernel
theorem dT_sign_21 : decode cT_sign 21 = .ok (.aload_n 0, 1) := by decide +kernel
theorem dT_sign_22 : decode cT_sign 22 = .ok (.getfield 24, 3) := by decide +kernel
theorem dT_sign_25 : decode cT_sign 25 = .ok (.getfield 95, 3) := by decide +kernel
theorem dT_sign_28 : decode cT_sign 28 = .ok (.iload 4, 2) := by decide +kernel
theorem dT_sign_30 : decode cT_sign 30 = .ok (.iaload, 1) := by decide +kernel
theorem dT_sign_31 : decode cT_sign 31 = .ok (.iload_n 3, 1) := by decide +kernel
theorem dT_sign_32 : decode cT_sign 32 = .ok (.invokestatic 67, 3) := by decide +kernel
theorem dT_sign_35 : decode cT_sign 35 = .ok (.invokestatic 98, 3) := by decide +kernel
theorem dT_sign_38 : decode cT_sign 38 = .ok (.lreturn, 1) := by decide +kernel
theorem dT_wrap_0 : decode cT_wrap 0 = .ok (.aload_n 0, 1) := by decide +kernel
theorem dT_wrap_1 : decode cT_wrap 1 = .ok (.iload_n 1, 1) := by decide +kernel
theorem dT_wrap_2 : decode cT_wrap 2 = .ok (.iload_n 2, 1) := by decide +kernel
theorem dT_wrap_3 : decode cT_wrap 3 = .ok (.invokevirtual 76, 3) := by decide +kernel
theorem dT_wrap_6 : decode cT_wrap 6 = .ok (.istore 4, 2) := by decide +kernel
theorem dT_wrap_8 : decode cT_wrap 8 = .ok (.iload 4, 2) := by decide +kernel
theorem dT_wrap_10 : decode cT_wrap 10 = .ok (.ifCond .ge 7, 3) := by decide +kernel
theorem dT_wrap_13 : decode cT_wrap 13 = .ok (.iload 4, 2) := by decide +kernel
theorem dT_wrap_15 : decode cT_wrap 15 = .ok (.i2l, 1) := by decide +kernel
theorem dT_wrap_16 : decode cT_wrap 16 = .ok (.lreturn, 1) := by decide +kernel
theorem dT_wrap_17 : decode cT_wrap 17 = .ok (.aload_n 0, 1) := by decide +kernel
theorem dT_wrap_18 : decode cT_wrap 18 = .ok (.iload_n 1, 1) := by decide +kernel
theorem dT_wrap_19 : decode cT_wrap 19 = .ok (.iload_n 3, 1) := by decide +kernel
theorem dT_wrap_20 : decode cT_wrap 20 = .ok (.invokevirtual 76, 3) := by decide +kernel
theorem dT_wrap_23 : decode cT_wrap 23 = .ok (.istore 5, 2) := by decide +kernel
theorem dT_wrap_25 : decode cT_wrap 25 = .ok (.iload 5, 2) := by decide +kernel
theorem dT_wrap_27 : decode cT_wrap 27 = .ok (.ifCond .ge 7, 3) := by decide +kernel
theorem dT_wrap_30 : decode cT_wrap 30 = .ok (.iload 5, 2) := by decide +kernel
theorem dT_wrap_32 : decode cT_wrap 32 = .ok (.i2l, 1) := by decide +kernel
theorem dT_wrap_33 : decode cT_wrap 33 = .ok (.lreturn, 1) := by decide +kernel
theorem dT_wrap_34 : decode cT_wrap 34 = .ok (.aload_n 0, 1) := by decide +kernel
theorem dT_wrap_35 : decode cT_wrap 35 = .ok (.getfield 24, 3) := by decide +kernel
theorem dT_wrap_38 : decode cT_wrap 38 = .ok (.iload 4, 2) := by decide +kernel
theorem dT_wrap_40 : decode cT_wrap 40 = .ok (.sipush 128, 3) := by decide +kernel
theorem dT_wrap_43 : decode cT_wrap 43 = .ok (.invokevirtual 90, 3) := by decide +kernel
theorem dT_wrap_46 : decode cT_wrap 46 = .ok (.ifCond .eq 22, 3) := by decide +kernel
theorem dT_wrap_49 : decode cT_wrap 49 = .ok (.aload_n 0, 1) := by decide +kernel
theorem dT_wrap_50 : decode cT_wrap 50 = .ok (.getfield 24, 3) := by decide +kernel
theorem dT_wrap_53 : decode cT_wrap 53 = .ok (.iload 4, 2) := by decide +kernel
theorem dT_wrap_55 : decode cT_wrap 55 = .ok (.sipush 512, 3) := by decide +kernel
theorem dT_wrap_58 : decode cT_wrap 58 = .ok (.invokevirtual 90, 3) := by decide +kernel
theorem dT_wrap_61 : decode cT_wrap 61 = .ok (.ifCond .eq 7, 3) := by decide +kernel
theorem dT_wrap_64 : decode cT_wrap 64 = .ok (.iconst 1, 1) := by decide +kernel
theorem dT_wrap_65 : decode cT_wrap 65 = .ok (.goto 4, 3) := by decide +kernel
theorem dT_wrap_68 : decode cT_wrap 68 = .ok (.iconst 0, 1) := by decide +kernel
theorem dT_wrap_69 : decode cT_wrap 69 = .ok (.istore 6, 2) := by decide +kernel
theorem dT_wrap_71 : decode cT_wrap 71 = .ok (.iload 6, 2) := by decide +kernel
theorem dT_wrap_73 : decode cT_wrap 73 = .ok (.ifCond .eq 17, 3) := by decide +kernel
theorem dT_wrap_76 : decode cT_wrap 76 = .ok (.aload_n 0, 1) := by decide +kernel
theorem dT_wrap_77 : decode cT_wrap 77 = .ok (.getfield 24, 3) := by decide +kernel
theorem dT_wrap_80 : decode cT_wrap 80 = .ok (.iload 5, 2) := by decide +kernel
theorem dT_wrap_82 : decode cT_wrap 82 = .ok (.bipush 8, 2) := by decide +kernel
theorem dT_wrap_84 : decode cT_wrap 84 = .ok (.invokevirtual 90, 3) := by decide +kernel
theorem dT_wrap_87 : decode cT_wrap 87 = .ok (.ifCond .ne 7, 3) := by decide +kernel
theorem dT_wrap_90 : decode cT_wrap 90 = .ok (.ldc2_w 93, 3) := by decide +kernel
theorem dT_wrap_93 : decode cT_wrap 93 = .ok (.lreturn, 1) := by decide +kernel
theorem dT_wrap_94 : decode cT_wrap 94 = .ok (.aload_n 0, 1) := by decide +kernel
theorem dT_wrap_95 : decode cT_wrap 95 = .ok (.getfield 24, 3) := by decide +kernel
theorem dT_wrap_98 : decode cT_wrap 98 = .ok (.getfield 95, 3) := by decide +kernel
theorem dT_wrap_101 : decode cT_wrap 101 = .ok (.iload 4, 2) := by decide +kernel
theorem dT_wrap_103 : decode cT_wrap 103 = .ok (.iaload, 1) := by decide +kernel
theorem dT_wrap_104 : decode cT_wrap 104 = .ok (.istore 7, 2) := by decide +kernel
theorem dT_wrap_106 : decode cT_wrap 106 = .ok (.aload_n 0, 1) := by decide +kernel
theorem dT_wrap_107 : decode cT_wrap 107 = .ok (.getfield 24, 3) := by decide +kernel
theorem dT_wrap_110 : decode cT_wrap 110 = .ok (.getfield 95, 3) := by decide +kernel
theorem dT_wrap_113 : decode cT_wrap 113 = .ok (.iload 5, 2) := by decide +kernel
theorem dT_wrap_115 : decode cT_wrap 115 = .ok (.iaload, 1) := by decide +kernel
theorem dT_wrap_116 : decode cT_wrap 116 = .ok (.istore 8, 2) := by decide +kernel
theorem dT_wrap_118 : decode cT_wrap 118 = .ok (.iload 7, 2) := by decide +kernel
theorem dT_wrap_120 : decode cT_wrap 120 = .ok (.iload 8, 2) := by decide +kernel
theorem dT_wrap_122 : decode cT_wrap 122 = .ok (.invokestatic 111, 3) := by decide +kernel
theorem dT_wrap_125 : decode cT_wrap 125 = .ok (.bipush 32, 2) := by decide +kernel
theorem dT_wrap_127 : decode cT_wrap 127 = .ok (.lshl, 1) := by decide +kernel
theorem dT_wrap_128 : decode cT_wrap 128 = .ok (.iload 7, 2) := by decide +kernel
theorem dT_wrap_130 : decode cT_wrap 130 = .ok (.iload 8, 2) := by decide +kernel
theorem dT_wrap_132 : decode cT_wrap 132 = .ok (.invokestatic 105, 3) := by decide +kernel
theorem dT_wrap_135 : decode cT_wrap 135 = .ok (.invokestatic 98, 3) := by decide +kernel
theorem dT_wrap_138 : decode cT_wrap 138 = .ok (.ladd, 1) := by decide +kernel
theorem dT_wrap_139 : decode cT_wrap 139 = .ok (.lreturn, 1) := by decide +kernel
theorem dT_unwrap_0 : decode cT_unwrap 0 = .ok (.aload_n 0, 1) := by decide +kernel
theorem dT_unwrap_1 : decode cT_unwrap 1 = .ok (.iload_n 1, 1) := by decide +kernel
theorem dT_unwrap_2 : decode cT_unwrap 2 = .ok (.iload_n 2, 1) := by decide +kernel
theorem dT_unwrap_3 : decode cT_unwrap 3 = .ok (.invokevirtual 76, 3) := by decide +kernel
theorem dT_unwrap_6 : decode cT_unwrap 6 = .ok (.istore 6, 2) := by decide +kernel
theorem dT_unwrap_8 : decode cT_unwrap 8 = .ok (.iload 6, 2) := by decide +kernel
theorem dT_unwrap_10 : decode cT_unwrap 10 = .ok (.ifCond .ge 6, 3) := by decide +kernel
theorem dT_unwrap_13 : decode cT_unwrap 13 = .ok (.iload 6, 2) := by decide +kernel
theorem dT_unwrap_15 : decode cT_unwrap 15 = .ok (.ireturn, 1) := by decide +kernel
theorem dT_unwrap_16 : decode cT_unwrap 16 = .ok (.aload_n 0, 1) := by decide +kernel
theorem dT_unwrap_17 : decode cT_unwrap 17 = .ok (.getfield 24, 3) := by decide +kernel
theorem dT_unwrap_20 : decode cT_unwrap 20 = .ok (.iload 6, 2) := by decide +kernel
theorem dT_unwrap_22 : decode cT_unwrap 22 = .ok (.sipush 256, 3) := by decide +kernel
theorem dT_unwrap_25 : decode cT_unwrap 25 = .ok (.invokevirtual 90, 3) := by decide +kernel
theorem dT_unwrap_28 : decode cT_unwrap 28 = .ok (.ifCond .eq 16, 3) := by decide +kernel
theorem dT_unwrap_31 : decode cT_unwrap 31 = .ok (.iload 5, 2) := by decide +kernel
theorem dT_unwrap_33 : decode cT_unwrap 33 = .ok (.sipush 128, 3) := by decide +kernel
theorem dT_unwrap_36 : decode cT_unwrap 36 = .ok (.iand, 1) := by decide +kernel
theorem dT_unwrap_37 : decode cT_unwrap 37 = .ok (.ifCond .ne 7, 3) := by decide +kernel
theorem dT_unwrap_40 : decode cT_unwrap 40 = .ok (.iconst 1, 1) := by decide +kernel
theorem dT_unwrap_41 : decode cT_unwrap 41 = .ok (.goto 4, 3) := by decide +kernel
theorem dT_unwrap_44 : decode cT_unwrap 44 = .ok (.iconst 0, 1) := by decide +kernel
theorem dT_unwrap_45 : decode cT_unwrap 45 = .ok (.istore 7, 2) := by decide +kernel
theorem dT_unwrap_47 : decode cT_unwrap 47 = .ok (.aload_n 0, 1) := by decide +kernel
theorem dT_unwrap_48 : decode cT_unwrap 48 = .ok (.iload_n 1, 1) := by decide +kernel
theorem dT_unwrap_49 : decode cT_unwrap 49 = .ok (.iload 5, 2) := by decide +kernel
theorem dT_unwrap_51 : decode cT_unwrap 51 = .ok (.iload 7, 2) := by decide +kernel
theorem dT_unwrap_53 : decode cT_unwrap 53 = .ok (.invokevirtual 55, 3) := by decide +kernel
theorem dT_unwrap_56 : decode cT_unwrap 56 = .ok (.istore 8, 2) := by decide +kernel
theorem dT_unwrap_58 : decode cT_unwrap 58 = .ok (.iload 8, 2) := by decide +kernel
theorem dT_unwrap_60 : decode cT_unwrap 60 = .ok (.ifCond .eq 6, 3) := by decide +kernel
theorem dT_unwrap_63 : decode cT_unwrap 63 = .ok (.iload 8, 2) := by decide +kernel
theorem dT_unwrap_65 : decode cT_unwrap 65 = .ok (.ireturn, 1) := by decide +kernel
theorem dT_unwrap_66 : decode cT_unwrap 66 = .ok (.aload_n 0, 1) := by decide +kernel
theorem dT_unwrap_67 : decode cT_unwrap 67 = .ok (.getfield 24, 3) := by decide +kernel
theorem dT_unwrap_70 : decode cT_unwrap 70 = .ok (.getfield 95, 3) := by decide +kernel
theorem dT_unwrap_73 : decode cT_unwrap 73 = .ok (.iload 6, 2) := by decide +kernel
theorem dT_unwrap_75 : decode cT_unwrap 75 = .ok (.iaload, 1) := by decide +kernel
theorem dT_unwrap_76 : decode cT_unwrap 76 = .ok (.istore 9, 2) := by decide +kernel
theorem dT_unwrap_78 : decode cT_unwrap 78 = .ok (.iload 9, 2) := by decide +kernel
theorem dT_unwrap_80 : decode cT_unwrap 80 = .ok (.lload_n 3, 1) := by decide +kernel
theorem dT_unwrap_81 : decode cT_unwrap 81 = .ok (.l2i, 1) := by decide +kernel
theorem dT_unwrap_82 : decode cT_unwrap 82 = .ok (.invokestatic 108, 3) := by decide +kernel
theorem dT_unwrap_85 : decode cT_unwrap 85 = .ok (.istore 10, 2) := by decide +kernel
theorem dT_unwrap_87 : decode cT_unwrap 87 = .ok (.lload_n 3, 1) := by decide +kernel
theorem dT_unwrap_88 : decode cT_unwrap 88 = .ok (.bipush 32, 2) := by decide +kernel
theorem dT_unwrap_90 : decode cT_unwrap 90 = .ok (.lushr, 1) := by decide +kernel
theorem dT_unwrap_91 : decode cT_unwrap 91 = .ok (.iload 9, 2) := by decide +kernel
theorem dT_unwrap_93 : decode cT_unwrap 93 = .ok (.iload 10, 2) := by decide +kernel
theorem dT_unwrap_95 : decode cT_unwrap 95 = .ok (.invokestatic 111, 3) := by decide +kernel
theorem dT_unwrap_98 : decode cT_unwrap 98 = .ok (.lcmp, 1) := by decide +kernel
theorem dT_unwrap_99 : decode cT_unwrap 99 = .ok (.ifCond .eq 6, 3) := by decide +kernel
theorem dT_unwrap_102 : decode cT_unwrap 102 = .ok (.bipush (-7), 2) := by decide +kernel
theorem dT_unwrap_104 : decode cT_unwrap 104 = .ok (.ireturn, 1) := by decide +kernel
theorem dT_unwrap_105 : decode cT_unwrap 105 = .ok (.aload_n 0, 1) := by decide +kernel
theorem dT_unwrap_106 : decode cT_unwrap 106 = .ok (.getfield 24, 3) := by decide +kernel
theorem dT_unwrap_109 : decode cT_unwrap 109 = .ok (.iload 5, 2) := by decide +kernel
theorem dT_unwrap_111 : decode cT_unwrap 111 = .ok (.iload 10, 2) := by decide +kernel
theorem dT_unwrap_113 : decode cT_unwrap 113 = .ok (.iload_n 1, 1) := by decide +kernel
theorem dT_unwrap_114 : decode cT_unwrap 114 = .ok (.invokevirtual 59, 3) := by decide +kernel
theorem dT_unwrap_117 : decode cT_unwrap 117 = .ok (.ireturn, 1) := by decide +kernel
theorem dT_find_0 : decode cT_find 0 = .ok (.aload_n 0, 1) := by decide +kernel
theorem dT_find_1 : decode cT_find 1 = .ok (.iload_n 1, 1) := by decide +kernel
theorem dT_find_2 : decode cT_find 2 = .ok (.invokevirtual 32, 3) := by decide +kernel
theorem dT_find_5 : decode cT_find 5 = .ok (.ifCond .ne 5, 3) := by decide +kernel
theorem dT_find_8 : decode cT_find 8 = .ok (.iconst (-1), 1) := by decide +kernel
theorem dT_find_9 : decode cT_find 9 = .ok (.ireturn, 1) := by decide +kernel
theorem dT_find_10 : decode cT_find 10 = .ok (.iconst 0, 1) := by decide +kernel
theorem dT_find_11 : decode cT_find 11 = .ok (.istore_n 3, 1) := by decide +kernel
theorem dT_find_12 : decode cT_find 12 = .ok (.iconst 0, 1) := by decide +kernel
theorem dT_find_13 : decode cT_find 13 = .ok (.istore 4, 2) := by decide +kernel
theorem dT_find_15 : decode cT_find 15 = .ok (.iload 4, 2) := by decide +kernel
theorem dT_find_17 : decode cT_find 17 = .ok (.aload_n 0, 1) := by decide +kernel
theorem dT_find_18 : decode cT_find 18 = .ok (.getfield 24, 3) := by decide +kernel
theorem dT_find_21 : decode cT_find 21 = .ok (.getfield 115, 3) := by decide +kernel
theorem dT_find_24 : decode cT_find 24 = .ok (.if_icmp .ge 37, 3) := by decide +kernel
theorem dT_find_27 : decode cT_find 27 = .ok (.aload_n 0, 1) := by decide +kernel
theorem dT_find_28 : decode cT_find 28 = .ok (.iload 4, 2) := by decide +kernel
theorem dT_find_30 : decode cT_find 30 = .ok (.invokevirtual 118, 3) := by decide +kernel
theorem dT_find_33 : decode cT_find 33 = .ok (.ifCond .eq 22, 3) := by decide +kernel
theorem dT_find_36 : decode cT_find 36 = .ok (.iload_n 3, 1) := by decide +kernel
theorem dT_find_37 : decode cT_find 37 = .ok (.iload_n 2, 1) := by decide +kernel
theorem dT_find_38 : decode cT_find 38 = .ok (.if_icmp .ne 14, 3) := by decide +kernel
theorem dT_find_41 : decode cT_find 41 = .ok (.aload_n 0, 1) := by decide +kernel
theorem dT_find_42 : decode cT_find 42 = .ok (.getfield 24, 3) := by decide +kernel
theorem dT_find_45 : decode cT_find 45 = .ok (.getfield 121, 3) := by decide +kernel
theorem dT_find_48 : decode cT_find 48 = .ok (.iload 4, 2) := by decide +kernel
theorem dT_find_50 : decode cT_find 50 = .ok (.iaload, 1) := by decide +kernel
theorem dT_find_51 : decode cT_find 51 = .ok (.ireturn, 1) := by decide +kernel
theorem dT_find_52 : decode cT_find 52 = .ok (.iinc 3 1, 3) := by decide +kernel
theorem dT_find_55 : decode cT_find 55 = .ok (.iinc 4 1, 3) := by decide +kernel
theorem dT_find_58 : decode cT_find 58 = .ok (.goto (-43), 3) := by decide +kernel
theorem dT_find_61 : decode cT_find 61 = .ok (.iconst 0, 1) := by decide +kernel
theorem dT_find_62 : decode cT_find 62 = .ok (.ireturn, 1) := by decide +kernel
theorem dT_status_0 : decode cT_status 0 = .ok (.iload_n 1, 1) := by decide +kernel
theorem dT_status_1 : decode cT_status 1 = .ok (.tableswitch 89 0 5 #[39, 44, 57, 65, 73, 81], 39) := by decide +kernel
theorem dT_status_40 : decode cT_status 40 = .ok (.aload_n 0, 1) := by decide +kernel
theorem dT_status_41 : decode cT_status 41 = .ok (.getfield 28, 3) := by decide +kernel
theorem dT_status_44 : decode cT_status 44 = .ok (.ireturn, 1) := by decide +kernel
theorem dT_status_45 : decode cT_status 45 = .ok (.aload_n 0, 1) := by decide +kernel
theorem dT_status_46 : decode cT_status 46 = .ok (.getfield 36, 3) := by decide +kernel
theorem dT_status_49 : decode cT_status 49 = .ok (.bipush 8, 2) := by decide +kernel
theorem dT_status_51 : decode cT_status 51 = .ok (.aload_n 0, 1) := by decide +kernel
theorem dT_status_52 : decode cT_status 52 = .ok (.getfield 39, 3) := by decide +kernel
theorem dT_status_55 : decode cT_status 55 = .ok (.imul, 1) := by decide +kernel
theorem dT_status_56 : decode cT_status 56 = .ok (.iadd, 1) := by decide +kernel
theorem dT_status_57 : decode cT_status 57 = .ok (.ireturn, 1) := by decide +kernel
theorem dT_status_58 : decode cT_status 58 = .ok (.aload_n 0, 1) := by decide +kernel
theorem dT_status_59 : decode cT_status 59 = .ok (.getfield 14, 3) := by decide +kernel
theorem dT_status_62 : decode cT_status 62 = .ok (.getfield 124, 3) := by decide +kernel
theorem dT_status_65 : decode cT_status 65 = .ok (.ireturn, 1) := by decide +kernel
theorem dT_status_66 : decode cT_status 66 = .ok (.aload_n 0, 1) := by decide +kernel
theorem dT_status_67 : decode cT_status 67 = .ok (.getfield 18, 3) := by decide +kernel
theorem dT_status_70 : decode cT_status 70 = .ok (.getfield 124, 3) := by decide +kernel
theorem dT_status_73 : decode cT_status 73 = .ok (.ireturn, 1) := by decide +kernel
theorem dT_status_74 : decode cT_status 74 = .ok (.aload_n 0, 1) := by decide +kernel
theorem dT_status_75 : decode cT_status 75 = .ok (.getfield 24, 3) := by decide +kernel
theorem dT_status_78 : decode cT_status 78 = .ok (.getfield 115, 3) := by decide +kernel
theorem dT_status_81 : decode cT_status 81 = .ok (.ireturn, 1) := by decide +kernel
theorem dT_status_82 : decode cT_status 82 = .ok (.aload_n 0, 1) := by decide +kernel
theorem dT_status_83 : decode cT_status 83 = .ok (.getfield 24, 3) := by decide +kernel
theorem dT_status_86 : decode cT_status 86 = .ok (.getfield 127, 3) := by decide +kernel
theorem dT_status_89 : decode cT_status 89 = .ok (.ireturn, 1) := by decide +kernel
theorem dT_status_90 : decode cT_status 90 = .ok (.iconst (-1), 1) := by decide +kernel
theorem dT_status_91 : decode cT_status 91 = .ok (.ireturn, 1) := by decide +kernel
theorem dT_isOpen_0 : decode cT_isOpen 0 = .ok (.iload_n 1, 1) := by decide +kernel
theorem dT_isOpen_1 : decode cT_isOpen 1 = .ok (.ifCond .lt 23, 3) := by decide +kernel
theorem dT_isOpen_4 : decode cT_isOpen 4 = .ok (.iload_n 1, 1) := by decide +kernel
theorem dT_isOpen_5 : decode cT_isOpen 5 = .ok (.iconst 3, 1) := by decide +kernel
theorem dT_isOpen_6 : decode cT_isOpen 6 = .ok (.if_icmp .ge 18, 3) := by decide +kernel
theorem dT_isOpen_9 : decode cT_isOpen 9 = .ok (.aload_n 0, 1) := by decide +kernel
theorem dT_isOpen_10 : decode cT_isOpen 10 = .ok (.getfield 36, 3) := by decide +kernel
theorem dT_isOpen_13 : decode cT_isOpen 13 = .ok (.iconst 1, 1) := by decide +kernel
theorem dT_isOpen_14 : decode cT_isOpen 14 = .ok (.iload_n 1, 1) := by decide +kernel
theorem dT_isOpen_15 : decode cT_isOpen 15 = .ok (.ishl, 1) := by decide +kernel
theorem dT_isOpen_16 : decode cT_isOpen 16 = .ok (.iand, 1) := by decide +kernel
theorem dT_isOpen_17 : decode cT_isOpen 17 = .ok (.ifCond .eq 7, 3) := by decide +kernel
theorem dT_isOpen_20 : decode cT_isOpen 20 = .ok (.iconst 1, 1) := by decide +kernel
theorem dT_isOpen_21 : decode cT_isOpen 21 = .ok (.goto 4, 3) := by decide +kernel
theorem dT_isOpen_24 : decode cT_isOpen 24 = .ok (.iconst 0, 1) := by decide +kernel
theorem dT_isOpen_25 : decode cT_isOpen 25 = .ok (.ireturn, 1) := by decide +kernel
theorem dT_isReadWrite_0 : decode cT_isReadWrite 0 = .ok (.aload_n 0, 1) := by decide +kernel
theorem dT_isReadWrite_1 : decode cT_isReadWrite 1 = .ok (.iload_n 1, 1) := by decide +kernel
theorem dT_isReadWrite_2 : decode cT_isReadWrite 2 = .ok (.invokevirtual 32, 3) := by decide +kernel
theorem dT_isReadWrite_5 : decode cT_isReadWrite 5 = .ok (.ifCond .eq 18, 3) := by decide +kernel
theorem dT_isReadWrite_8 : decode cT_isReadWrite 8 = .ok (.aload_n 0, 1) := by decide +kernel
theorem dT_isReadWrite_9 : decode cT_isReadWrite 9 = .ok (.getfield 39, 3) := by decide +kernel
theorem dT_isReadWrite_12 : decode cT_isReadWrite 12 = .ok (.iconst 1, 1) := by decide +kernel
theorem dT_isReadWrite_13 : decode cT_isReadWrite 13 = .ok (.iload_n 1, 1) := by decide +kernel
theorem dT_isReadWrite_14 : decode cT_isReadWrite 14 = .ok (.ishl, 1) := by decide +kernel
theorem dT_isReadWrite_15 : decode cT_isReadWrite 15 = .ok (.iand, 1) := by decide +kernel
theorem dT_isReadWrite_16 : decode cT_isReadWrite 16 = .ok (.ifCond .eq 7, 3) := by decide +kernel
theorem dT_isReadWrite_19 : decode cT_isReadWrite 19 = .ok (.iconst 1, 1) := by decide +kernel
theorem dT_isReadWrite_20 : decode cT_isReadWrite 20 = .ok (.goto 4, 3) := by decide +kernel
theorem dT_isReadWrite_23 : decode cT_isReadWrite 23 = .ok (.iconst 0, 1) := by decide +kernel
theorem dT_isReadWrite_24 : decode cT_isReadWrite 24 = .ok (.ireturn, 1) := by decide +kernel
theorem dT_isVisible_0 : decode cT_isVisible 0 = .ok (.aload_n 0, 1) := by decide +kernel
theorem dT_isVisible_1 : decode cT_isVisible 1 = .ok (.getfield 28, 3) := by decide +kernel
theorem dT_isVisible_4 : decode cT_isVisible 4 = .ok (.iconst 1, 1) := by decide +kernel
theorem dT_isVisible_5 : decode cT_isVisible 5 = .ok (.if_icmp .eq 15, 3) := by decide +kernel
theorem dT_isVisible_8 : decode cT_isVisible 8 = .ok (.aload_n 0, 1) := by decide +kernel
theorem dT_isVisible_9 : decode cT_isVisible 9 = .ok (.getfield 24, 3) := by decide +kernel
theorem dT_isVisible_12 : decode cT_isVisible 12 = .ok (.iload_n 1, 1) := by decide +kernel
theorem dT_isVisible_13 : decode cT_isVisible 13 = .ok (.iconst 2, 1) := by decide +kernel
theorem dT_isVisible_14 : decode cT_isVisible 14 = .ok (.invokevirtual 90, 3) := by decide +kernel
theorem dT_isVisible_17 : decode cT_isVisible 17 = .ok (.ifCond .ne 7, 3) := by decide +kernel
theorem dT_isVisible_20 : decode cT_isVisible 20 = .ok (.iconst 1, 1) := by decide +kernel
theorem dT_isVisible_21 : decode cT_isVisible 21 = .ok (.goto 4, 3) := by decide +kernel
theorem dT_isVisible_24 : decode cT_isVisible 24 = .ok (.iconst 0, 1) := by decide +kernel
theorem dT_isVisible_25 : decode cT_isVisible 25 = .ok (.ireturn, 1) := by decide +kernel
theorem dT_isFixedFor_0 : decode cT_isFixedFor 0 = .ok (.aload_n 0, 1) := by decide +kernel
theorem dT_isFixedFor_1 : decode cT_isFixedFor 1 = .ok (.getfield 24, 3) := by decide +kernel
theorem dT_isFixedFor_4 : decode cT_isFixedFor 4 = .ok (.iload_n 2, 1) := by decide +kernel
theorem dT_isFixedFor_5 : decode cT_isFixedFor 5 = .ok (.iconst 1, 1) := by decide +kernel
theorem dT_isFixedFor_6 : decode cT_isFixedFor 6 = .ok (.invokevirtual 90, 3) := by decide +kernel
theorem dT_isFixedFor_9 : decode cT_isFixedFor 9 = .ok (.ifCond .eq 15, 3) := by decide +kernel
theorem dT_isFixedFor_12 : decode cT_isFixedFor 12 = .ok (.aload_n 0, 1) := by decide +kernel
theorem dT_isFixedFor_13 : decode cT_isFixedFor 13 = .ok (.iload_n 1, 1) := by decide +kernel
theorem dT_isFixedFor_14 : decode cT_isFixedFor 14 = .ok (.invokevirtual 130, 3) := by decide +kernel
theorem dT_isFixedFor_17 : decode cT_isFixedFor 17 = .ok (.ifCond .ne 7, 3) := by decide +kernel
theorem dT_isFixedFor_20 : decode cT_isFixedFor 20 = .ok (.iconst 1, 1) := by decide +kernel
theorem dT_isFixedFor_21 : decode cT_isFixedFor 21 = .ok (.goto 4, 3) := by decide +kernel
theorem dT_isFixedFor_24 : decode cT_isFixedFor 24 = .ok (.iconst 0, 1) := by decide +kernel
theorem dT_isFixedFor_25 : decode cT_isFixedFor 25 = .ok (.ireturn, 1) := by decide +kernel
theorem dT_rowOrRefusal_0 : decode cT_rowOrRefusal 0 = .ok (.aload_n 0, 1) := by decide +kernel
theorem dT_rowOrRefusal_1 : decode cT_rowOrRefusal 1 = .ok (.iload_n 1, 1) := by decide +kernel
theorem dT_rowOrRefusal_2 : decode cT_rowOrRefusal 2 = .ok (.invokevirtual 32, 3) := by decide +kernel
theorem dT_rowOrRefusal_5 : decode cT_rowOrRefusal 5 = .ok (.ifCond .ne 5, 3) := by decide +kernel
theorem dT_rowOrRefusal_8 : decode cT_rowOrRefusal 8 = .ok (.iconst (-1), 1) := by decide +kernel
theorem dT_rowOrRefusal_9 : decode cT_rowOrRefusal 9 = .ok (.ireturn, 1) := by decide +kernel
theorem dT_rowOrRefusal_10 : decode cT_rowOrRefusal 10 = .ok (.aload_n 0, 1) := by decide +kernel
theorem dT_rowOrRefusal_11 : decode cT_rowOrRefusal 11 = .ok (.getfield 24, 3) := by decide +kernel
theorem dT_rowOrRefusal_14 : decode cT_rowOrRefusal 14 = .ok (.iload_n 2, 1) := by decide +kernel
theorem dT_rowOrRefusal_15 : decode cT_rowOrRefusal 15 = .ok (.invokevirtual 133, 3) := by decide +kernel
theorem dT_rowOrRefusal_18 : decode cT_rowOrRefusal 18 = .ok (.istore_n 3, 1) := by decide +kernel
theorem dT_rowOrRefusal_19 : decode cT_rowOrRefusal 19 = .ok (.iload_n 3, 1) := by decide +kernel
theorem dT_rowOrRefusal_20 : decode cT_rowOrRefusal 20 = .ok (.ifCond .lt 15, 3) := by decide +kernel
theorem dT_rowOrRefusal_23 : decode cT_rowOrRefusal 23 = .ok (.aload_n 0, 1) := by decide +kernel
theorem dT_rowOrRefusal_24 : decode cT_rowOrRefusal 24 = .ok (.iload_n 3, 1) := by decide +kernel
theorem dT_rowOrRefusal_25 : decode cT_rowOrRefusal 25 = .ok (.invokevirtual 118, 3) := by decide +kernel
theorem dT_rowOrRefusal_28 : decode cT_rowOrRefusal 28 = .ok (.ifCond .eq 7, 3) := by decide +kernel
theorem dT_rowOrRefusal_31 : decode cT_rowOrRefusal 31 = .ok (.iload_n 3, 1) := by decide +kernel
theorem dT_rowOrRefusal_32 : decode cT_rowOrRefusal 32 = .ok (.goto 5, 3) := by decide +kernel
theorem dT_rowOrRefusal_35 : decode cT_rowOrRefusal 35 = .ok (.bipush (-2), 2) := by decide +kernel
theorem dT_rowOrRefusal_37 : decode cT_rowOrRefusal 37 = .ok (.ireturn, 1) := by decide +kernel
theorem dT_rowForUse_0 : decode cT_rowForUse 0 = .ok (.aload_n 0, 1) := by decide +kernel
theorem dT_rowForUse_1 : decode cT_rowForUse 1 = .ok (.iload_n 1, 1) := by decide +kernel
theorem dT_rowForUse_2 : decode cT_rowForUse 2 = .ok (.iload_n 2, 1) := by decide +kernel
theorem dT_rowForUse_3 : decode cT_rowForUse 3 = .ok (.invokevirtual 76, 3) := by decide +kernel
theorem dT_rowForUse_6 : decode cT_rowForUse 6 = .ok (.istore 4, 2) := by decide +kernel
theorem dT_rowForUse_8 : decode cT_rowForUse 8 = .ok (.iload 4, 2) := by decide +kernel
theorem dT_rowForUse_10 : decode cT_rowForUse 10 = .ok (.ifCond .lt 21, 3) := by decide +kernel
theorem dT_rowForUse_13 : decode cT_rowForUse 13 = .ok (.aload_n 0, 1) := by decide +kernel
theorem dT_rowForUse_14 : decode cT_rowForUse 14 = .ok (.getfield 24, 3) := by decide +kernel
theorem dT_rowForUse_17 : decode cT_rowForUse 17 = .ok (.iload 4, 2) := by decide +kernel
theorem dT_rowForUse_19 : decode cT_rowForUse 19 = .ok (.iload_n 3, 1) := by decide +kernel
theorem dT_rowForUse_20 : decode cT_rowForUse 20 = .ok (.invokevirtual 90, 3) := by decide +kernel
theorem dT_rowForUse_23 : decode cT_rowForUse 23 = .ok (.ifCond .ne 8, 3) := by decide +kernel
theorem dT_rowForUse_26 : decode cT_rowForUse 26 = .ok (.bipush (-5), 2) := by decide +kernel
theorem dT_rowForUse_28 : decode cT_rowForUse 28 = .ok (.goto 5, 3) := by decide +kernel
theorem dT_rowForUse_31 : decode cT_rowForUse 31 = .ok (.iload 4, 2) := by decide +kernel
theorem dT_rowForUse_33 : decode cT_rowForUse 33 = .ok (.ireturn, 1) := by decide +kernel
theorem dT_refusalToMake_0 : decode cT_refusalToMake 0 = .ok (.aload_n 0, 1) := by decide +kernel
theorem dT_refusalToMake_1 : decode cT_refusalToMake 1 = .ok (.iload_n 1, 1) := by decide +kernel
theorem dT_refusalToMake_2 : decode cT_refusalToMake 2 = .ok (.invokevirtual 32, 3) := by decide +kernel
theorem dT_refusalToMake_5 : decode cT_refusalToMake 5 = .ok (.ifCond .ne 5, 3) := by decide +kernel
theorem dT_refusalToMake_8 : decode cT_refusalToMake 8 = .ok (.iconst (-1), 1) := by decide +kernel
theorem dT_refusalToMake_9 : decode cT_refusalToMake 9 = .ok (.ireturn, 1) := by decide +kernel
theorem dT_refusalToMake_10 : decode cT_refusalToMake 10 = .ok (.iload_n 2, 1) := by decide +kernel
theorem dT_refusalToMake_11 : decode cT_refusalToMake 11 = .ok (.iconst 2, 1) := by decide +kernel
theorem dT_refusalToMake_12 : decode cT_refusalToMake 12 = .ok (.iand, 1) := by decide +kernel
theorem dT_refusalToMake_13 : decode cT_refusalToMake 13 = .ok (.ifCond .eq 14, 3) := by decide +kernel
theorem dT_refusalToMake_16 : decode cT_refusalToMake 16 = .ok (.aload_n 0, 1) := by decide +kernel
theorem dT_refusalToMake_17 : decode cT_refusalToMake 17 = .ok (.getfield 28, 3) := by decide +kernel
theorem dT_refusalToMake_20 : decode cT_refusalToMake 20 = .ok (.iconst 1, 1) := by decide +kernel
theorem dT_refusalToMake_21 : decode cT_refusalToMake 21 = .ok (.if_icmp .eq 6, 3) := by decide +kernel
theorem dT_refusalToMake_24 : decode cT_refusalToMake 24 = .ok (.bipush (-3), 2) := by decide +kernel
theorem dT_refusalToMake_26 : decode cT_refusalToMake 26 = .ok (.ireturn, 1) := by decide +kernel
theorem dT_refusalToMake_27 : decode cT_refusalToMake 27 = .ok (.iload_n 2, 1) := by decide +kernel
theorem dT_refusalToMake_28 : decode cT_refusalToMake 28 = .ok (.iconst 1, 1) := by decide +kernel
theorem dT_refusalToMake_29 : decode cT_refusalToMake 29 = .ok (.iand, 1) := by decide +kernel
theorem dT_refusalToMake_30 : decode cT_refusalToMake 30 = .ok (.ifCond .eq 14, 3) := by decide +kernel
theorem dT_refusalToMake_33 : decode cT_refusalToMake 33 = .ok (.aload_n 0, 1) := by decide +kernel
theorem dT_refusalToMake_34 : decode cT_refusalToMake 34 = .ok (.iload_n 1, 1) := by decide +kernel
theorem dT_refusalToMake_35 : decode cT_refusalToMake 35 = .ok (.invokevirtual 130, 3) := by decide +kernel
theorem dT_refusalToMake_38 : decode cT_refusalToMake 38 = .ok (.ifCond .ne 6, 3) := by decide +kernel
theorem dT_refusalToMake_41 : decode cT_refusalToMake 41 = .ok (.bipush (-4), 2) := by decide +kernel
theorem dT_refusalToMake_43 : decode cT_refusalToMake 43 = .ok (.ireturn, 1) := by decide +kernel
theorem dT_refusalToMake_44 : decode cT_refusalToMake 44 = .ok (.iload_n 3, 1) := by decide +kernel
theorem dT_refusalToMake_45 : decode cT_refusalToMake 45 = .ok (.ifCond .eq 10, 3) := by decide +kernel
theorem dT_refusalToMake_48 : decode cT_refusalToMake 48 = .ok (.iload_n 2, 1) := by decide +kernel
theorem dT_refusalToMake_49 : decode cT_refusalToMake 49 = .ok (.invokestatic 136, 3) := by decide +kernel
theorem dT_refusalToMake_52 : decode cT_refusalToMake 52 = .ok (.ifCond .ne 6, 3) := by decide +kernel
theorem dT_refusalToMake_55 : decode cT_refusalToMake 55 = .ok (.bipush (-5), 2) := by decide +kernel
theorem dT_refusalToMake_57 : decode cT_refusalToMake 57 = .ok (.ireturn, 1) := by decide +kernel
theorem dT_refusalToMake_58 : decode cT_refusalToMake 58 = .ok (.aload_n 0, 1) := by decide +kernel
theorem dT_refusalToMake_59 : decode cT_refusalToMake 59 = .ok (.getfield 24, 3) := by decide +kernel
theorem dT_refusalToMake_62 : decode cT_refusalToMake 62 = .ok (.getfield 115, 3) := by decide +kernel
theorem dT_refusalToMake_65 : decode cT_refusalToMake 65 = .ok (.bipush 10, 2) := by decide +kernel
theorem dT_refusalToMake_67 : decode cT_refusalToMake 67 = .ok (.if_icmp .lt 8, 3) := by decide +kernel
theorem dT_refusalToMake_70 : decode cT_refusalToMake 70 = .ok (.bipush (-6), 2) := by decide +kernel
theorem dT_refusalToMake_72 : decode cT_refusalToMake 72 = .ok (.goto 4, 3) := by decide +kernel
theorem dT_refusalToMake_75 : decode cT_refusalToMake 75 = .ok (.iconst 0, 1) := by decide +kernel
theorem dT_refusalToMake_76 : decode cT_refusalToMake 76 = .ok (.ireturn, 1) := by decide +kernel
theorem dT_areGood_0 : decode cT_areGood 0 = .ok (.iload_n 0, 1) := by decide +kernel
theorem dT_areGood_1 : decode cT_areGood 1 = .ok (.ifCond .lt 38, 3) := by decide +kernel
theorem dT_areGood_4 : decode cT_areGood 4 = .ok (.iload_n 0, 1) := by decide +kernel
theorem dT_areGood_5 : decode cT_areGood 5 = .ok (.sipush 511, 3) := by decide +kernel
theorem dT_areGood_8 : decode cT_areGood 8 = .ok (.if_icmp .gt 31, 3) := by decide +kernel
theorem dT_areGood_11 : decode cT_areGood 11 = .ok (.iload_n 0, 1) := by decide +kernel
theorem dT_areGood_12 : decode cT_areGood 12 = .ok (.sipush 128, 3) := by decide +kernel
theorem dT_areGood_15 : decode cT_areGood 15 = .ok (.bipush 32, 2) := by decide +kernel
theorem dT_areGood_17 : decode cT_areGood 17 = .ok (.invokestatic 139, 3) := by decide +kernel
theorem dT_areGood_20 : decode cT_areGood 20 = .ok (.ifCond .ne 19, 3) := by decide +kernel
theorem dT_areGood_23 : decode cT_areGood 23 = .ok (.iload_n 0, 1) := by decide +kernel
theorem dT_areGood_24 : decode cT_areGood 24 = .ok (.sipush 256, 3) := by decide +kernel
theorem dT_areGood_27 : decode cT_areGood 27 = .ok (.bipush 16, 2) := by decide +kernel
theorem dT_areGood_29 : decode cT_areGood 29 = .ok (.invokestatic 139, 3) := by decide +kernel
theorem dT_areGood_32 : decode cT_areGood 32 = .ok (.ifCond .ne 7, 3) := by decide +kernel
theorem dT_areGood_35 : decode cT_areGood 35 = .ok (.iconst 1, 1) := by decide +kernel
