theorem dT_areGood_36 : decode cT_areGood 36 = .ok (.goto 4, 3) := by decide +kernel
theorem dT_areGood_39 : decode cT_areGood 39 = .ok (.iconst 0, 1) := by decide +kernel
theorem dT_areGood_40 : decode cT_areGood 40 = .ok (.ireturn, 1) := by decide +kernel
theorem dT_hasBoth_0 : decode cT_hasBoth 0 = .ok (.iload_n 0, 1) := by decide +kernel
theorem dT_hasBoth_1 : decode cT_hasBoth 1 = .ok (.iload_n 1, 1) := by decide +kernel
theorem dT_hasBoth_2 : decode cT_hasBoth 2 = .ok (.iand, 1) := by decide +kernel
theorem dT_hasBoth_3 : decode cT_hasBoth 3 = .ok (.ifCond .eq 13, 3) := by decide +kernel
theorem dT_hasBoth_6 : decode cT_hasBoth 6 = .ok (.iload_n 0, 1) := by decide +kernel
theorem dT_hasBoth_7 : decode cT_hasBoth 7 = .ok (.iload_n 2, 1) := by decide +kernel
theorem dT_hasBoth_8 : decode cT_hasBoth 8 = .ok (.iand, 1) := by decide +kernel
theorem dT_hasBoth_9 : decode cT_hasBoth 9 = .ok (.ifCond .eq 7, 3) := by decide +kernel
theorem dT_hasBoth_12 : decode cT_hasBoth 12 = .ok (.iconst 1, 1) := by decide +kernel
theorem dT_hasBoth_13 : decode cT_hasBoth 13 = .ok (.goto 4, 3) := by decide +kernel
theorem dT_hasBoth_16 : decode cT_hasBoth 16 = .ok (.iconst 0, 1) := by decide +kernel
theorem dT_hasBoth_17 : decode cT_hasBoth 17 = .ok (.ireturn, 1) := by decide +kernel
theorem dT_originOf_0 : decode cT_originOf 0 = .ok (.iload_n 0, 1) := by decide +kernel
theorem dT_originOf_1 : decode cT_originOf 1 = .ok (.iconst 4, 1) := by decide +kernel
theorem dT_originOf_2 : decode cT_originOf 2 = .ok (.iand, 1) := by decide +kernel
theorem dT_originOf_3 : decode cT_originOf 3 = .ok (.ifCond .eq 9, 3) := by decide +kernel
theorem dT_originOf_6 : decode cT_originOf 6 = .ok (.sipush 2048, 3) := by decide +kernel
theorem dT_originOf_9 : decode cT_originOf 9 = .ok (.goto 4, 3) := by decide +kernel
theorem dT_originOf_12 : decode cT_originOf 12 = .ok (.iconst 0, 1) := by decide +kernel
theorem dT_originOf_13 : decode cT_originOf 13 = .ok (.istore_n 1, 1) := by decide +kernel
theorem dT_originOf_14 : decode cT_originOf 14 = .ok (.iload_n 0, 1) := by decide +kernel
theorem dT_originOf_15 : decode cT_originOf 15 = .ok (.bipush 8, 2) := by decide +kernel
theorem dT_originOf_17 : decode cT_originOf 17 = .ok (.iand, 1) := by decide +kernel
theorem dT_originOf_18 : decode cT_originOf 18 = .ok (.ifCond .ne 9, 3) := by decide +kernel
theorem dT_originOf_21 : decode cT_originOf 21 = .ok (.sipush 4096, 3) := by decide +kernel
theorem dT_originOf_24 : decode cT_originOf 24 = .ok (.goto 4, 3) := by decide +kernel
theorem dT_originOf_27 : decode cT_originOf 27 = .ok (.iconst 0, 1) := by decide +kernel
theorem dT_originOf_28 : decode cT_originOf 28 = .ok (.istore_n 2, 1) := by decide +kernel
theorem dT_originOf_29 : decode cT_originOf 29 = .ok (.sipush 1024, 3) := by decide +kernel
theorem dT_originOf_32 : decode cT_originOf 32 = .ok (.iload_n 1, 1) := by decide +kernel
theorem dT_originOf_33 : decode cT_originOf 33 = .ok (.ior, 1) := by decide +kernel
theorem dT_originOf_34 : decode cT_originOf 34 = .ok (.iload_n 2, 1) := by decide +kernel
theorem dT_originOf_35 : decode cT_originOf 35 = .ok (.ior, 1) := by decide +kernel
theorem dT_originOf_36 : decode cT_originOf 36 = .ok (.ireturn, 1) := by decide +kernel
theorem dT_answered_0 : decode cT_answered 0 = .ok (.iload_n 0, 1) := by decide +kernel
theorem dT_answered_1 : decode cT_answered 1 = .ok (.i2l, 1) := by decide +kernel
theorem dT_answered_2 : decode cT_answered 2 = .ok (.ldc2_w 143, 3) := by decide +kernel
theorem dT_answered_5 : decode cT_answered 5 = .ok (.land, 1) := by decide +kernel
theorem dT_answered_6 : decode cT_answered 6 = .ok (.lreturn, 1) := by decide +kernel
theorem dT_tagOf_0 : decode cT_tagOf 0 = .ok (.iload_n 0, 1) := by decide +kernel
theorem dT_tagOf_1 : decode cT_tagOf 1 = .ok (.iload_n 1, 1) := by decide +kernel
theorem dT_tagOf_2 : decode cT_tagOf 2 = .ok (.invokestatic 67, 3) := by decide +kernel
theorem dT_tagOf_5 : decode cT_tagOf 5 = .ok (.ldc 145, 2) := by decide +kernel
theorem dT_tagOf_7 : decode cT_tagOf 7 = .ok (.iand, 1) := by decide +kernel
theorem dT_tagOf_8 : decode cT_tagOf 8 = .ok (.i2l, 1) := by decide +kernel
theorem dT_tagOf_9 : decode cT_tagOf 9 = .ok (.lreturn, 1) := by decide +kernel
theorem dR_init_0 : decode cR_init 0 = .ok (.aload_n 0, 1) := by decide +kernel
theorem dR_init_1 : decode cR_init 1 = .ok (.invokespecial 3, 3) := by decide +kernel
theorem dR_init_4 : decode cR_init 4 = .ok (.aload_n 0, 1) := by decide +kernel
theorem dR_init_5 : decode cR_init 5 = .ok (.iload_n 1, 1) := by decide +kernel
theorem dR_init_6 : decode cR_init 6 = .ok (.putfield 9, 3) := by decide +kernel
theorem dR_init_9 : decode cR_init 9 = .ok (.return_, 1) := by decide +kernel
theorem dR_tryPin_0 : decode cR_tryPin 0 = .ok (.aload_n 0, 1) := by decide +kernel
theorem dR_tryPin_1 : decode cR_tryPin 1 = .ok (.getfield 15, 3) := by decide +kernel
theorem dR_tryPin_4 : decode cR_tryPin 4 = .ok (.iconst 3, 1) := by decide +kernel
theorem dR_tryPin_5 : decode cR_tryPin 5 = .ok (.if_icmp .lt 6, 3) := by decide +kernel
theorem dR_tryPin_8 : decode cR_tryPin 8 = .ok (.bipush (-8), 2) := by decide +kernel
theorem dR_tryPin_10 : decode cR_tryPin 10 = .ok (.ireturn, 1) := by decide +kernel
theorem dR_tryPin_11 : decode cR_tryPin 11 = .ok (.iload_n 1, 1) := by decide +kernel
theorem dR_tryPin_12 : decode cR_tryPin 12 = .ok (.aload_n 0, 1) := by decide +kernel
theorem dR_tryPin_13 : decode cR_tryPin 13 = .ok (.getfield 9, 3) := by decide +kernel
theorem dR_tryPin_16 : decode cR_tryPin 16 = .ok (.if_icmp .eq 16, 3) := by decide +kernel
theorem dR_tryPin_19 : decode cR_tryPin 19 = .ok (.aload_n 0, 1) := by decide +kernel
theorem dR_tryPin_20 : decode cR_tryPin 20 = .ok (.dup, 1) := by decide +kernel
theorem dR_tryPin_21 : decode cR_tryPin 21 = .ok (.getfield 15, 3) := by decide +kernel
theorem dR_tryPin_24 : decode cR_tryPin 24 = .ok (.iconst 1, 1) := by decide +kernel
theorem dR_tryPin_25 : decode cR_tryPin 25 = .ok (.iadd, 1) := by decide +kernel
theorem dR_tryPin_26 : decode cR_tryPin 26 = .ok (.putfield 15, 3) := by decide +kernel
theorem dR_tryPin_29 : decode cR_tryPin 29 = .ok (.bipush (-9), 2) := by decide +kernel
theorem dR_tryPin_31 : decode cR_tryPin 31 = .ok (.ireturn, 1) := by decide +kernel
theorem dR_tryPin_32 : decode cR_tryPin 32 = .ok (.aload_n 0, 1) := by decide +kernel
theorem dR_tryPin_33 : decode cR_tryPin 33 = .ok (.iconst 0, 1) := by decide +kernel
theorem dR_tryPin_34 : decode cR_tryPin 34 = .ok (.putfield 15, 3) := by decide +kernel
theorem dR_tryPin_37 : decode cR_tryPin 37 = .ok (.iconst 0, 1) := by decide +kernel
theorem dR_tryPin_38 : decode cR_tryPin 38 = .ok (.ireturn, 1) := by decide +kernel
theorem dR_renew_0 : decode cR_renew 0 = .ok (.aload_n 0, 1) := by decide +kernel
theorem dR_renew_1 : decode cR_renew 1 = .ok (.iload_n 1, 1) := by decide +kernel
theorem dR_renew_2 : decode cR_renew 2 = .ok (.putfield 9, 3) := by decide +kernel
theorem dR_renew_5 : decode cR_renew 5 = .ok (.aload_n 0, 1) := by decide +kernel
theorem dR_renew_6 : decode cR_renew 6 = .ok (.iconst 0, 1) := by decide +kernel
theorem dR_renew_7 : decode cR_renew 7 = .ok (.putfield 15, 3) := by decide +kernel
theorem dR_renew_10 : decode cR_renew 10 = .ok (.return_, 1) := by decide +kernel
theorem dK_init_0 : decode cK_init 0 = .ok (.aload_n 0, 1) := by decide +kernel
theorem dK_init_1 : decode cK_init 1 = .ok (.invokespecial 3, 3) := by decide +kernel
theorem dK_init_4 : decode cK_init 4 = .ok (.aload_n 0, 1) := by decide +kernel
theorem dK_init_5 : decode cK_init 5 = .ok (.bipush 10, 2) := by decide +kernel
theorem dK_init_7 : decode cK_init 7 = .ok (.newarray .int, 2) := by decide +kernel
theorem dK_init_9 : decode cK_init 9 = .ok (.putfield 9, 3) := by decide +kernel
theorem dK_init_12 : decode cK_init 12 = .ok (.aload_n 0, 1) := by decide +kernel
theorem dK_init_13 : decode cK_init 13 = .ok (.bipush 10, 2) := by decide +kernel
theorem dK_init_15 : decode cK_init 15 = .ok (.newarray .int, 2) := by decide +kernel
theorem dK_init_17 : decode cK_init 17 = .ok (.putfield 15, 3) := by decide +kernel
theorem dK_init_20 : decode cK_init 20 = .ok (.aload_n 0, 1) := by decide +kernel
theorem dK_init_21 : decode cK_init 21 = .ok (.bipush 10, 2) := by decide +kernel
theorem dK_init_23 : decode cK_init 23 = .ok (.newarray .int, 2) := by decide +kernel
theorem dK_init_25 : decode cK_init 25 = .ok (.putfield 18, 3) := by decide +kernel
theorem dK_init_28 : decode cK_init 28 = .ok (.aload_n 0, 1) := by decide +kernel
theorem dK_init_29 : decode cK_init 29 = .ok (.bipush 10, 2) := by decide +kernel
theorem dK_init_31 : decode cK_init 31 = .ok (.newarray .int, 2) := by decide +kernel
theorem dK_init_33 : decode cK_init 33 = .ok (.putfield 21, 3) := by decide +kernel
theorem dK_init_36 : decode cK_init 36 = .ok (.return_, 1) := by decide +kernel
theorem dK_has_0 : decode cK_has 0 = .ok (.iload_n 1, 1) := by decide +kernel
theorem dK_has_1 : decode cK_has 1 = .ok (.ifCond .lt 26, 3) := by decide +kernel
theorem dK_has_4 : decode cK_has 4 = .ok (.iload_n 1, 1) := by decide +kernel
theorem dK_has_5 : decode cK_has 5 = .ok (.aload_n 0, 1) := by decide +kernel
theorem dK_has_6 : decode cK_has 6 = .ok (.getfield 24, 3) := by decide +kernel
theorem dK_has_9 : decode cK_has 9 = .ok (.if_icmp .ge 18, 3) := by decide +kernel
theorem dK_has_12 : decode cK_has 12 = .ok (.aload_n 0, 1) := by decide +kernel
theorem dK_has_13 : decode cK_has 13 = .ok (.getfield 15, 3) := by decide +kernel
theorem dK_has_16 : decode cK_has 16 = .ok (.iload_n 1, 1) := by decide +kernel
theorem dK_has_17 : decode cK_has 17 = .ok (.iaload, 1) := by decide +kernel
theorem dK_has_18 : decode cK_has 18 = .ok (.iload_n 2, 1) := by decide +kernel
theorem dK_has_19 : decode cK_has 19 = .ok (.iand, 1) := by decide +kernel
theorem dK_has_20 : decode cK_has 20 = .ok (.ifCond .eq 7, 3) := by decide +kernel
theorem dK_has_23 : decode cK_has 23 = .ok (.iconst 1, 1) := by decide +kernel
theorem dK_has_24 : decode cK_has 24 = .ok (.goto 4, 3) := by decide +kernel
theorem dK_has_27 : decode cK_has 27 = .ok (.iconst 0, 1) := by decide +kernel
theorem dK_has_28 : decode cK_has 28 = .ok (.ireturn, 1) := by decide +kernel
theorem dK_rowWith_0 : decode cK_rowWith 0 = .ok (.iconst 0, 1) := by decide +kernel
theorem dK_rowWith_1 : decode cK_rowWith 1 = .ok (.istore_n 2, 1) := by decide +kernel
theorem dK_rowWith_2 : decode cK_rowWith 2 = .ok (.iload_n 2, 1) := by decide +kernel
theorem dK_rowWith_3 : decode cK_rowWith 3 = .ok (.aload_n 0, 1) := by decide +kernel
theorem dK_rowWith_4 : decode cK_rowWith 4 = .ok (.getfield 24, 3) := by decide +kernel
theorem dK_rowWith_7 : decode cK_rowWith 7 = .ok (.if_icmp .ge 21, 3) := by decide +kernel
theorem dK_rowWith_10 : decode cK_rowWith 10 = .ok (.aload_n 0, 1) := by decide +kernel
theorem dK_rowWith_11 : decode cK_rowWith 11 = .ok (.getfield 9, 3) := by decide +kernel
theorem dK_rowWith_14 : decode cK_rowWith 14 = .ok (.iload_n 2, 1) := by decide +kernel
theorem dK_rowWith_15 : decode cK_rowWith 15 = .ok (.iaload, 1) := by decide +kernel
theorem dK_rowWith_16 : decode cK_rowWith 16 = .ok (.iload_n 1, 1) := by decide +kernel
theorem dK_rowWith_17 : decode cK_rowWith 17 = .ok (.if_icmp .ne 5, 3) := by decide +kernel
theorem dK_rowWith_20 : decode cK_rowWith 20 = .ok (.iload_n 2, 1) := by decide +kernel
theorem dK_rowWith_21 : decode cK_rowWith 21 = .ok (.ireturn, 1) := by decide +kernel
theorem dK_rowWith_22 : decode cK_rowWith 22 = .ok (.iinc 2 1, 3) := by decide +kernel
theorem dK_rowWith_25 : decode cK_rowWith 25 = .ok (.goto (-23), 3) := by decide +kernel
theorem dK_rowWith_28 : decode cK_rowWith 28 = .ok (.iconst (-1), 1) := by decide +kernel
theorem dK_rowWith_29 : decode cK_rowWith 29 = .ok (.ireturn, 1) := by decide +kernel
theorem dK_add_0 : decode cK_add 0 = .ok (.aload_n 0, 1) := by decide +kernel
theorem dK_add_1 : decode cK_add 1 = .ok (.getfield 24, 3) := by decide +kernel
theorem dK_add_4 : decode cK_add 4 = .ok (.bipush 10, 2) := by decide +kernel
theorem dK_add_6 : decode cK_add 6 = .ok (.if_icmp .lt 6, 3) := by decide +kernel
theorem dK_add_9 : decode cK_add 9 = .ok (.bipush (-6), 2) := by decide +kernel
theorem dK_add_11 : decode cK_add 11 = .ok (.ireturn, 1) := by decide +kernel
theorem dK_add_12 : decode cK_add 12 = .ok (.aload_n 0, 1) := by decide +kernel
theorem dK_add_13 : decode cK_add 13 = .ok (.dup, 1) := by decide +kernel
theorem dK_add_14 : decode cK_add 14 = .ok (.getfield 28, 3) := by decide +kernel
theorem dK_add_17 : decode cK_add 17 = .ok (.iconst 1, 1) := by decide +kernel
theorem dK_add_18 : decode cK_add 18 = .ok (.iadd, 1) := by decide +kernel
theorem dK_add_19 : decode cK_add 19 = .ok (.putfield 28, 3) := by decide +kernel
theorem dK_add_22 : decode cK_add 22 = .ok (.aload_n 0, 1) := by decide +kernel
theorem dK_add_23 : decode cK_add 23 = .ok (.getfield 9, 3) := by decide +kernel
theorem dK_add_26 : decode cK_add 26 = .ok (.aload_n 0, 1) := by decide +kernel
theorem dK_add_27 : decode cK_add 27 = .ok (.getfield 24, 3) := by decide +kernel
theorem dK_add_30 : decode cK_add 30 = .ok (.aload_n 0, 1) := by decide +kernel
theorem dK_add_31 : decode cK_add 31 = .ok (.getfield 28, 3) := by decide +kernel
theorem dK_add_34 : decode cK_add 34 = .ok (.iastore, 1) := by decide +kernel
theorem dK_add_35 : decode cK_add 35 = .ok (.aload_n 0, 1) := by decide +kernel
theorem dK_add_36 : decode cK_add 36 = .ok (.getfield 15, 3) := by decide +kernel
theorem dK_add_39 : decode cK_add 39 = .ok (.aload_n 0, 1) := by decide +kernel
theorem dK_add_40 : decode cK_add 40 = .ok (.getfield 24, 3) := by decide +kernel
theorem dK_add_43 : decode cK_add 43 = .ok (.iload_n 1, 1) := by decide +kernel
theorem dK_add_44 : decode cK_add 44 = .ok (.iastore, 1) := by decide +kernel
theorem dK_add_45 : decode cK_add 45 = .ok (.aload_n 0, 1) := by decide +kernel
theorem dK_add_46 : decode cK_add 46 = .ok (.getfield 18, 3) := by decide +kernel
theorem dK_add_49 : decode cK_add 49 = .ok (.aload_n 0, 1) := by decide +kernel
theorem dK_add_50 : decode cK_add 50 = .ok (.getfield 24, 3) := by decide +kernel
theorem dK_add_53 : decode cK_add 53 = .ok (.iload_n 2, 1) := by decide +kernel
theorem dK_add_54 : decode cK_add 54 = .ok (.iastore, 1) := by decide +kernel
theorem dK_add_55 : decode cK_add 55 = .ok (.aload_n 0, 1) := by decide +kernel
theorem dK_add_56 : decode cK_add 56 = .ok (.getfield 21, 3) := by decide +kernel
theorem dK_add_59 : decode cK_add 59 = .ok (.aload_n 0, 1) := by decide +kernel
theorem dK_add_60 : decode cK_add 60 = .ok (.getfield 24, 3) := by decide +kernel
theorem dK_add_63 : decode cK_add 63 = .ok (.iload_n 1, 1) := by decide +kernel
theorem dK_add_64 : decode cK_add 64 = .ok (.iconst 1, 1) := by decide +kernel
theorem dK_add_65 : decode cK_add 65 = .ok (.iand, 1) := by decide +kernel
theorem dK_add_66 : decode cK_add 66 = .ok (.ifCond .eq 7, 3) := by decide +kernel
theorem dK_add_69 : decode cK_add 69 = .ok (.iconst (-1), 1) := by decide +kernel
theorem dK_add_70 : decode cK_add 70 = .ok (.goto 4, 3) := by decide +kernel
theorem dK_add_73 : decode cK_add 73 = .ok (.iload_n 3, 1) := by decide +kernel
theorem dK_add_74 : decode cK_add 74 = .ok (.iastore, 1) := by decide +kernel
theorem dK_add_75 : decode cK_add 75 = .ok (.aload_n 0, 1) := by decide +kernel
theorem dK_add_76 : decode cK_add 76 = .ok (.dup, 1) := by decide +kernel
theorem dK_add_77 : decode cK_add 77 = .ok (.getfield 24, 3) := by decide +kernel
theorem dK_add_80 : decode cK_add 80 = .ok (.iconst 1, 1) := by decide +kernel
theorem dK_add_81 : decode cK_add 81 = .ok (.iadd, 1) := by decide +kernel
theorem dK_add_82 : decode cK_add 82 = .ok (.putfield 24, 3) := by decide +kernel
theorem dK_add_85 : decode cK_add 85 = .ok (.aload_n 0, 1) := by decide +kernel
theorem dK_add_86 : decode cK_add 86 = .ok (.getfield 28, 3) := by decide +kernel
theorem dK_add_89 : decode cK_add 89 = .ok (.ireturn, 1) := by decide +kernel
theorem dK_removeRow_0 : decode cK_removeRow 0 = .ok (.iload_n 1, 1) := by decide +kernel
theorem dK_removeRow_1 : decode cK_removeRow 1 = .ok (.istore_n 2, 1) := by decide +kernel
theorem dK_removeRow_2 : decode cK_removeRow 2 = .ok (.iload_n 2, 1) := by decide +kernel
theorem dK_removeRow_3 : decode cK_removeRow 3 = .ok (.aload_n 0, 1) := by decide +kernel
theorem dK_removeRow_4 : decode cK_removeRow 4 = .ok (.getfield 24, 3) := by decide +kernel
theorem dK_removeRow_7 : decode cK_removeRow 7 = .ok (.iconst 1, 1) := by decide +kernel
theorem dK_removeRow_8 : decode cK_removeRow 8 = .ok (.isub, 1) := by decide +kernel
theorem dK_removeRow_9 : decode cK_removeRow 9 = .ok (.if_icmp .ge 65, 3) := by decide +kernel
theorem dK_removeRow_12 : decode cK_removeRow 12 = .ok (.aload_n 0, 1) := by decide +kernel
theorem dK_removeRow_13 : decode cK_removeRow 13 = .ok (.getfield 9, 3) := by decide +kernel
theorem dK_removeRow_16 : decode cK_removeRow 16 = .ok (.iload_n 2, 1) := by decide +kernel
theorem dK_removeRow_17 : decode cK_removeRow 17 = .ok (.aload_n 0, 1) := by decide +kernel
theorem dK_removeRow_18 : decode cK_removeRow 18 = .ok (.getfield 9, 3) := by decide +kernel
theorem dK_removeRow_21 : decode cK_removeRow 21 = .ok (.iload_n 2, 1) := by decide +kernel
theorem dK_removeRow_22 : decode cK_removeRow 22 = .ok (.iconst 1, 1) := by decide +kernel
theorem dK_removeRow_23 : decode cK_removeRow 23 = .ok (.iadd, 1) := by decide +kernel
theorem dK_removeRow_24 : decode cK_removeRow 24 = .ok (.iaload, 1) := by decide +kernel
theorem dK_removeRow_25 : decode cK_removeRow 25 = .ok (.iastore, 1) := by decide +kernel
theorem dK_removeRow_26 : decode cK_removeRow 26 = .ok (.aload_n 0, 1) := by decide +kernel
theorem dK_removeRow_27 : decode cK_removeRow 27 = .ok (.getfield 15, 3) := by decide +kernel
theorem dK_removeRow_30 : decode cK_removeRow 30 = .ok (.iload_n 2, 1) := by decide +kernel
theorem dK_removeRow_31 : decode cK_removeRow 31 = .ok (.aload_n 0, 1) := by decide +kernel
theorem dK_removeRow_32 : decode cK_removeRow 32 = .ok (.getfield 15, 3) := by decide +kernel
theorem dK_removeRow_35 : decode cK_removeRow 35 = .ok (.iload_n 2, 1) := by decide +kernel
theorem dK_removeRow_36 : decode cK_removeRow 36 = .ok (.iconst 1, 1) := by decide +kernel
theorem dK_removeRow_37 : decode cK_removeRow 37 = .ok (.iadd, 1) := by decide +kernel
theorem dK_removeRow_38 : decode cK_removeRow 38 = .ok (.iaload, 1) := by decide +kernel
theorem dK_removeRow_39 : decode cK_removeRow 39 = .ok (.iastore, 1) := by decide +kernel
theorem dK_removeRow_40 : decode cK_removeRow 40 = .ok (.aload_n 0, 1) := by decide +kernel
theorem dK_removeRow_41 : decode cK_removeRow 41 = .ok (.getfield 18, 3) := by decide +kernel
theorem dK_removeRow_44 : decode cK_removeRow 44 = .ok (.iload_n 2, 1) := by decide +kernel
theorem dK_removeRow_45 : decode cK_removeRow 45 = .ok (.aload_n 0, 1) := by decide +kernel
theorem dK_removeRow_46 : decode cK_removeRow 46 = .ok (.getfield 18, 3) := by decide +kernel
theorem dK_removeRow_49 : decode cK_removeRow 49 = .ok (.iload_n 2, 1) := by decide +kernel
theorem dK_removeRow_50 : decode cK_removeRow 50 = .ok (.iconst 1, 1) := by decide +kernel
theorem dK_removeRow_51 : decode cK_removeRow 51 = .ok (.iadd, 1) := by decide +kernel
theorem dK_removeRow_52 : decode cK_removeRow 52 = .ok (.iaload, 1) := by decide +kernel
theorem dK_removeRow_53 : decode cK_removeRow 53 = .ok (.iastore, 1) := by decide +kernel
theorem dK_removeRow_54 : decode cK_removeRow 54 = .ok (.aload_n 0, 1) := by decide +kernel
theorem dK_removeRow_55 : decode cK_removeRow 55 = .ok (.getfield 21, 3) := by decide +kernel
theorem dK_removeRow_58 : decode cK_removeRow 58 = .ok (.iload_n 2, 1) := by decide +kernel
theorem dK_removeRow_59 : decode cK_removeRow 59 = .ok (.aload_n 0, 1) := by decide +kernel
theorem dK_removeRow_60 : decode cK_removeRow 60 = .ok (.getfield 21, 3) := by decide +kernel
theorem dK_removeRow_63 : decode cK_removeRow 63 = .ok (.iload_n 2, 1) := by decide +kernel
theorem dK_removeRow_64 : decode cK_removeRow 64 = .ok (.iconst 1, 1) := by decide +kernel
theorem dK_removeRow_65 : decode cK_removeRow 65 = .ok (.iadd, 1) := by decide +kernel
theorem dK_removeRow_66 : decode cK_removeRow 66 = .ok (.iaload, 1) := by decide +kernel
theorem dK_removeRow_67 : decode cK_removeRow 67 = .ok (.iastore, 1) := by decide +kernel
theorem dK_removeRow_68 : decode cK_removeRow 68 = .ok (.iinc 2 1, 3) := by decide +kernel
theorem dK_removeRow_71 : decode cK_removeRow 71 = .ok (.goto (-69), 3) := by decide +kernel
theorem dK_removeRow_74 : decode cK_removeRow 74 = .ok (.aload_n 0, 1) := by decide +kernel
theorem dK_removeRow_75 : decode cK_removeRow 75 = .ok (.dup, 1) := by decide +kernel
theorem dK_removeRow_76 : decode cK_removeRow 76 = .ok (.getfield 24, 3) := by decide +kernel
theorem dK_removeRow_79 : decode cK_removeRow 79 = .ok (.iconst 1, 1) := by decide +kernel
theorem dK_removeRow_80 : decode cK_removeRow 80 = .ok (.isub, 1) := by decide +kernel
theorem dK_removeRow_81 : decode cK_removeRow 81 = .ok (.putfield 24, 3) := by decide +kernel
theorem dK_removeRow_84 : decode cK_removeRow 84 = .ok (.return_, 1) := by decide +kernel
theorem dK_removeOwnedBy_0 : decode cK_removeOwnedBy 0 = .ok (.aload_n 0, 1) := by decide +kernel
theorem dK_removeOwnedBy_1 : decode cK_removeOwnedBy 1 = .ok (.getfield 24, 3) := by decide +kernel
theorem dK_removeOwnedBy_4 : decode cK_removeOwnedBy 4 = .ok (.iconst 1, 1) := by decide +kernel
theorem dK_removeOwnedBy_5 : decode cK_removeOwnedBy 5 = .ok (.isub, 1) := by decide +kernel
theorem dK_removeOwnedBy_6 : decode cK_removeOwnedBy 6 = .ok (.istore_n 2, 1) := by decide +kernel
theorem dK_removeOwnedBy_7 : decode cK_removeOwnedBy 7 = .ok (.iload_n 2, 1) := by decide +kernel
theorem dK_removeOwnedBy_8 : decode cK_removeOwnedBy 8 = .ok (.ifCond .lt 24, 3) := by decide +kernel
theorem dK_removeOwnedBy_11 : decode cK_removeOwnedBy 11 = .ok (.aload_n 0, 1) := by decide +kernel
theorem dK_removeOwnedBy_12 : decode cK_removeOwnedBy 12 = .ok (.getfield 21, 3) := by decide +kernel
theorem dK_removeOwnedBy_15 : decode cK_removeOwnedBy 15 = .ok (.iload_n 2, 1) := by decide +kernel
theorem dK_removeOwnedBy_16 : decode cK_removeOwnedBy 16 = .ok (.iaload, 1) := by decide +kernel
theorem dK_removeOwnedBy_17 : decode cK_removeOwnedBy 17 = .ok (.iload_n 1, 1) := by decide +kernel
theorem dK_removeOwnedBy_18 : decode cK_removeOwnedBy 18 = .ok (.if_icmp .ne 8, 3) := by decide +kernel
theorem dK_removeOwnedBy_21 : decode cK_removeOwnedBy 21 = .ok (.aload_n 0, 1) := by decide +kernel
theorem dK_removeOwnedBy_22 : decode cK_removeOwnedBy 22 = .ok (.iload_n 2, 1) := by decide +kernel
theorem dK_removeOwnedBy_23 : decode cK_removeOwnedBy 23 = .ok (.invokevirtual 31, 3) := by decide +kernel
theorem dK_removeOwnedBy_26 : decode cK_removeOwnedBy 26 = .ok (.iinc 2 (-1), 3) := by decide +kernel
theorem dK_removeOwnedBy_29 : decode cK_removeOwnedBy 29 = .ok (.goto (-22), 3) := by decide +kernel
theorem dK_removeOwnedBy_32 : decode cK_removeOwnedBy 32 = .ok (.return_, 1) := by decide +kernel
theorem dK_removePrivateSessionKeys_0 : decode cK_removePrivateSessionKeys 0 = .ok (.aload_n 0, 1) := by decide +kernel
theorem dK_removePrivateSessionKeys_1 : decode cK_removePrivateSessionKeys 1 = .ok (.getfield 24, 3) := by decide +kernel
theorem dK_removePrivateSessionKeys_4 : decode cK_removePrivateSessionKeys 4 = .ok (.iconst 1, 1) := by decide +kernel
theorem dK_removePrivateSessionKeys_5 : decode cK_removePrivateSessionKeys 5 = .ok (.isub, 1) := by decide +kernel
theorem dK_removePrivateSessionKeys_6 : decode cK_removePrivateSessionKeys 6 = .ok (.istore_n 1, 1) := by decide +kernel
theorem dK_removePrivateSessionKeys_7 : decode cK_removePrivateSessionKeys 7 = .ok (.iload_n 1, 1) := by decide +kernel
theorem dK_removePrivateSessionKeys_8 : decode cK_removePrivateSessionKeys 8 = .ok (.ifCond .lt 32, 3) := by decide +kernel
theorem dK_removePrivateSessionKeys_11 : decode cK_removePrivateSessionKeys 11 = .ok (.aload_n 0, 1) := by decide +kernel
theorem dK_removePrivateSessionKeys_12 : decode cK_removePrivateSessionKeys 12 = .ok (.iload_n 1, 1) := by decide +kernel
theorem dK_removePrivateSessionKeys_13 : decode cK_removePrivateSessionKeys 13 = .ok (.iconst 2, 1) := by decide +kernel
theorem dK_removePrivateSessionKeys_14 : decode cK_removePrivateSessionKeys 14 = .ok (.invokevirtual 35, 3) := by decide +kernel
theorem dK_removePrivateSessionKeys_17 : decode cK_removePrivateSessionKeys 17 = .ok (.ifCond .eq 17, 3) := by decide +kernel
theorem dK_removePrivateSessionKeys_20 : decode cK_removePrivateSessionKeys 20 = .ok (.aload_n 0, 1) := by decide +kernel
theorem dK_removePrivateSessionKeys_21 : decode cK_removePrivateSessionKeys 21 = .ok (.iload_n 1, 1) := by decide +kernel
theorem dK_removePrivateSessionKeys_22 : decode cK_removePrivateSessionKeys 22 = .ok (.iconst 1, 1) := by decide +kernel
theorem dK_removePrivateSessionKeys_23 : decode cK_removePrivateSessionKeys 23 = .ok (.invokevirtual 35, 3) := by decide +kernel
theorem dK_removePrivateSessionKeys_26 : decode cK_removePrivateSessionKeys 26 = .ok (.ifCond .ne 8, 3) := by decide +kernel
theorem dK_removePrivateSessionKeys_29 : decode cK_removePrivateSessionKeys 29 = .ok (.aload_n 0, 1) := by decide +kernel
theorem dK_removePrivateSessionKeys_30 : decode cK_removePrivateSessionKeys 30 = .ok (.iload_n 1, 1) := by decide +kernel
theorem dK_removePrivateSessionKeys_31 : decode cK_removePrivateSessionKeys 31 = .ok (.invokevirtual 31, 3) := by decide +kernel
theorem dK_removePrivateSessionKeys_34 : decode cK_removePrivateSessionKeys 34 = .ok (.iinc 1 (-1), 3) := by decide +kernel
theorem dK_removePrivateSessionKeys_37 : decode cK_removePrivateSessionKeys 37 = .ok (.goto (-30), 3) := by decide +kernel
theorem dK_removePrivateSessionKeys_40 : decode cK_removePrivateSessionKeys 40 = .ok (.return_, 1) := by decide +kernel
theorem dW_half_0 : decode cW_half 0 = .ok (.iload_n 2, 1) := by decide +kernel
theorem dW_half_1 : decode cW_half 1 = .ok (.ldc 7, 2) := by decide +kernel
theorem dW_half_3 : decode cW_half 3 = .ok (.imul, 1) := by decide +kernel
theorem dW_half_4 : decode cW_half 4 = .ok (.iload_n 0, 1) := by decide +kernel
theorem dW_half_5 : decode cW_half 5 = .ok (.iload_n 1, 1) := by decide +kernel
theorem dW_half_6 : decode cW_half 6 = .ok (.invokestatic 8, 3) := by decide +kernel
theorem dW_half_9 : decode cW_half 9 = .ok (.sipush 257, 3) := by decide +kernel
theorem dW_half_12 : decode cW_half 12 = .ok (.imul, 1) := by decide +kernel
theorem dW_half_13 : decode cW_half 13 = .ok (.iadd, 1) := by decide +kernel
theorem dW_half_14 : decode cW_half 14 = .ok (.iload_n 1, 1) := by decide +kernel
theorem dW_half_15 : decode cW_half 15 = .ok (.sipush 4099, 3) := by decide +kernel
theorem dW_half_18 : decode cW_half 18 = .ok (.imul, 1) := by decide +kernel
theorem dW_half_19 : decode cW_half 19 = .ok (.iadd, 1) := by decide +kernel
theorem dW_half_20 : decode cW_half 20 = .ok (.istore_n 3, 1) := by decide +kernel
theorem dW_half_21 : decode cW_half 21 = .ok (.iload_n 3, 1) := by decide +kernel
theorem dW_half_22 : decode cW_half 22 = .ok (.iload_n 3, 1) := by decide +kernel
theorem dW_half_23 : decode cW_half 23 = .ok (.bipush 7, 2) := by decide +kernel
theorem dW_half_25 : decode cW_half 25 = .ok (.iushr, 1) := by decide +kernel
theorem dW_half_26 : decode cW_half 26 = .ok (.ixor, 1) := by decide +kernel
theorem dW_half_27 : decode cW_half 27 = .ok (.ldc 14, 2) := by decide +kernel
theorem dW_half_29 : decode cW_half 29 = .ok (.iand, 1) := by decide +kernel
theorem dW_half_30 : decode cW_half 30 = .ok (.ireturn, 1) := by decide +kernel
theorem dW_enc_0 : decode cW_enc 0 = .ok (.iload_n 1, 1) := by decide +kernel
theorem dW_enc_1 : decode cW_enc 1 = .ok (.bipush 16, 2) := by decide +kernel
theorem dW_enc_3 : decode cW_enc 3 = .ok (.iushr, 1) := by decide +kernel
theorem dW_enc_4 : decode cW_enc 4 = .ok (.istore_n 2, 1) := by decide +kernel
theorem dW_enc_5 : decode cW_enc 5 = .ok (.iload_n 1, 1) := by decide +kernel
theorem dW_enc_6 : decode cW_enc 6 = .ok (.ldc 14, 2) := by decide +kernel
theorem dW_enc_8 : decode cW_enc 8 = .ok (.iand, 1) := by decide +kernel
theorem dW_enc_9 : decode cW_enc 9 = .ok (.istore_n 3, 1) := by decide +kernel
theorem dW_enc_10 : decode cW_enc 10 = .ok (.iconst 0, 1) := by decide +kernel
theorem dW_enc_11 : decode cW_enc 11 = .ok (.istore 4, 2) := by decide +kernel
theorem dW_enc_13 : decode cW_enc 13 = .ok (.iload 4, 2) := by decide +kernel
theorem dW_enc_15 : decode cW_enc 15 = .ok (.iconst 4, 1) := by decide +kernel
theorem dW_enc_16 : decode cW_enc 16 = .ok (.if_icmp .ge 25, 3) := by decide +kernel
theorem dW_enc_19 : decode cW_enc 19 = .ok (.iload_n 2, 1) := by decide +kernel
theorem dW_enc_20 : decode cW_enc 20 = .ok (.iload_n 0, 1) := by decide +kernel
theorem dW_enc_21 : decode cW_enc 21 = .ok (.iload 4, 2) := by decide +kernel
theorem dW_enc_23 : decode cW_enc 23 = .ok (.iload_n 3, 1) := by decide +kernel
theorem dW_enc_24 : decode cW_enc 24 = .ok (.invokestatic 15, 3) := by decide +kernel
theorem dW_enc_27 : decode cW_enc 27 = .ok (.ixor, 1) := by decide +kernel
theorem dW_enc_28 : decode cW_enc 28 = .ok (.istore 5, 2) := by decide +kernel
theorem dW_enc_30 : decode cW_enc 30 = .ok (.iload_n 3, 1) := by decide +kernel
theorem dW_enc_31 : decode cW_enc 31 = .ok (.istore_n 2, 1) := by decide +kernel
theorem dW_enc_32 : decode cW_enc 32 = .ok (.iload 5, 2) := by decide +kernel
theorem dW_enc_34 : decode cW_enc 34 = .ok (.istore_n 3, 1) := by decide +kernel
theorem dW_enc_35 : decode cW_enc 35 = .ok (.iinc 4 1, 3) := by decide +kernel
theorem dW_enc_38 : decode cW_enc 38 = .ok (.goto (-25), 3) := by decide +kernel
theorem dW_enc_41 : decode cW_enc 41 = .ok (.iload_n 2, 1) := by decide +kernel
theorem dW_enc_42 : decode cW_enc 42 = .ok (.ldc 19, 2) := by decide +kernel
theorem dW_enc_44 : decode cW_enc 44 = .ok (.imul, 1) := by decide +kernel
theorem dW_enc_45 : decode cW_enc 45 = .ok (.iload_n 3, 1) := by decide +kernel
theorem dW_enc_46 : decode cW_enc 46 = .ok (.iadd, 1) := by decide +kernel
theorem dW_enc_47 : decode cW_enc 47 = .ok (.ireturn, 1) := by decide +kernel
theorem dW_dec_0 : decode cW_dec 0 = .ok (.iload_n 1, 1) := by decide +kernel
theorem dW_dec_1 : decode cW_dec 1 = .ok (.bipush 16, 2) := by decide +kernel
theorem dW_dec_3 : decode cW_dec 3 = .ok (.iushr, 1) := by decide +kernel
theorem dW_dec_4 : decode cW_dec 4 = .ok (.istore_n 2, 1) := by decide +kernel
theorem dW_dec_5 : decode cW_dec 5 = .ok (.iload_n 1, 1) := by decide +kernel
theorem dW_dec_6 : decode cW_dec 6 = .ok (.ldc 14, 2) := by decide +kernel
theorem dW_dec_8 : decode cW_dec 8 = .ok (.iand, 1) := by decide +kernel
theorem dW_dec_9 : decode cW_dec 9 = .ok (.istore_n 3, 1) := by decide +kernel
theorem dW_dec_10 : decode cW_dec 10 = .ok (.iconst 3, 1) := by decide +kernel
theorem dW_dec_11 : decode cW_dec 11 = .ok (.istore 4, 2) := by decide +kernel
theorem dW_dec_13 : decode cW_dec 13 = .ok (.iload 4, 2) := by decide +kernel
theorem dW_dec_15 : decode cW_dec 15 = .ok (.ifCond .lt 25, 3) := by decide +kernel
theorem dW_dec_18 : decode cW_dec 18 = .ok (.iload_n 3, 1) := by decide +kernel
theorem dW_dec_19 : decode cW_dec 19 = .ok (.iload_n 0, 1) := by decide +kernel
theorem dW_dec_20 : decode cW_dec 20 = .ok (.iload 4, 2) := by decide +kernel
theorem dW_dec_22 : decode cW_dec 22 = .ok (.iload_n 2, 1) := by decide +kernel
theorem dW_dec_23 : decode cW_dec 23 = .ok (.invokestatic 15, 3) := by decide +kernel
theorem dW_dec_26 : decode cW_dec 26 = .ok (.ixor, 1) := by decide +kernel
theorem dW_dec_27 : decode cW_dec 27 = .ok (.istore 5, 2) := by decide +kernel
theorem dW_dec_29 : decode cW_dec 29 = .ok (.iload_n 2, 1) := by decide +kernel
theorem dW_dec_30 : decode cW_dec 30 = .ok (.istore_n 3, 1) := by decide +kernel
theorem dW_dec_31 : decode cW_dec 31 = .ok (.iload 5, 2) := by decide +kernel
theorem dW_dec_33 : decode cW_dec 33 = .ok (.istore_n 2, 1) := by decide +kernel
theorem dW_dec_34 : decode cW_dec 34 = .ok (.iinc 4 (-1), 3) := by decide +kernel
theorem dW_dec_37 : decode cW_dec 37 = .ok (.goto (-24), 3) := by decide +kernel
theorem dW_dec_40 : decode cW_dec 40 = .ok (.iload_n 2, 1) := by decide +kernel
theorem dW_dec_41 : decode cW_dec 41 = .ok (.ldc 19, 2) := by decide +kernel
theorem dW_dec_43 : decode cW_dec 43 = .ok (.imul, 1) := by decide +kernel
theorem dW_dec_44 : decode cW_dec 44 = .ok (.iload_n 3, 1) := by decide +kernel
theorem dW_dec_45 : decode cW_dec 45 = .ok (.iadd, 1) := by decide +kernel
theorem dW_dec_46 : decode cW_dec 46 = .ok (.ireturn, 1) := by decide +kernel
theorem dW_mac_0 : decode cW_mac 0 = .ok (.iload_n 0, 1) := by decide +kernel
theorem dW_mac_1 : decode cW_mac 1 = .ok (.istore_n 2, 1) := by decide +kernel
theorem dW_mac_2 : decode cW_mac 2 = .ok (.iconst 0, 1) := by decide +kernel
theorem dW_mac_3 : decode cW_mac 3 = .ok (.istore_n 3, 1) := by decide +kernel
theorem dW_mac_4 : decode cW_mac 4 = .ok (.iload_n 3, 1) := by decide +kernel
theorem dW_mac_5 : decode cW_mac 5 = .ok (.iconst 4, 1) := by decide +kernel
theorem dW_mac_6 : decode cW_mac 6 = .ok (.if_icmp .ge 27, 3) := by decide +kernel
theorem dW_mac_9 : decode cW_mac 9 = .ok (.iload_n 2, 1) := by decide +kernel
theorem dW_mac_10 : decode cW_mac 10 = .ok (.iload_n 1, 1) := by decide +kernel
theorem dW_mac_11 : decode cW_mac 11 = .ok (.iload_n 3, 1) := by decide +kernel
theorem dW_mac_12 : decode cW_mac 12 = .ok (.invokestatic 8, 3) := by decide +kernel
theorem dW_mac_15 : decode cW_mac 15 = .ok (.ixor, 1) := by decide +kernel
theorem dW_mac_16 : decode cW_mac 16 = .ok (.ldc 20, 2) := by decide +kernel
theorem dW_mac_18 : decode cW_mac 18 = .ok (.imul, 1) := by decide +kernel
theorem dW_mac_19 : decode cW_mac 19 = .ok (.istore_n 2, 1) := by decide +kernel
theorem dW_mac_20 : decode cW_mac 20 = .ok (.iload_n 2, 1) := by decide +kernel
theorem dW_mac_21 : decode cW_mac 21 = .ok (.iload_n 2, 1) := by decide +kernel
theorem dW_mac_22 : decode cW_mac 22 = .ok (.bipush 13, 2) := by decide +kernel
theorem dW_mac_24 : decode cW_mac 24 = .ok (.iushr, 1) := by decide +kernel
theorem dW_mac_25 : decode cW_mac 25 = .ok (.ixor, 1) := by decide +kernel
theorem dW_mac_26 : decode cW_mac 26 = .ok (.istore_n 2, 1) := by decide +kernel
theorem dW_mac_27 : decode cW_mac 27 = .ok (.iinc 3 1, 3) := by decide +kernel
theorem dW_mac_30 : decode cW_mac 30 = .ok (.goto (-26), 3) := by decide +kernel
theorem dW_mac_33 : decode cW_mac 33 = .ok (.iload_n 2, 1) := by decide +kernel
theorem dW_mac_34 : decode cW_mac 34 = .ok (.ireturn, 1) := by decide +kernel
theorem dW_byteOf_0 : decode cW_byteOf 0 = .ok (.iload_n 0, 1) := by decide +kernel
theorem dW_byteOf_1 : decode cW_byteOf 1 = .ok (.bipush 8, 2) := by decide +kernel
theorem dW_byteOf_3 : decode cW_byteOf 3 = .ok (.iload_n 1, 1) := by decide +kernel
theorem dW_byteOf_4 : decode cW_byteOf 4 = .ok (.imul, 1) := by decide +kernel
theorem dW_byteOf_5 : decode cW_byteOf 5 = .ok (.iushr, 1) := by decide +kernel
theorem dW_byteOf_6 : decode cW_byteOf 6 = .ok (.sipush 255, 3) := by decide +kernel
theorem dW_byteOf_9 : decode cW_byteOf 9 = .ok (.iand, 1) := by decide +kernel
theorem dW_byteOf_10 : decode cW_byteOf 10 = .ok (.ireturn, 1) := by decide +kernel
theorem dM_init_0 : decode cM_init 0 = .ok (.aload_n 0, 1) := by decide +kernel
theorem dM_init_1 : decode cM_init 1 = .ok (.invokespecial 1, 3) := by decide +kernel
theorem dM_init_4 : decode cM_init 4 = .ok (.aload_n 0, 1) := by decide +kernel
theorem dM_init_5 : decode cM_init 5 = .ok (.iconst 3, 1) := by decide +kernel
theorem dM_init_6 : decode cM_init 6 = .ok (.newarray .int, 2) := by decide +kernel
theorem dM_init_8 : decode cM_init 8 = .ok (.putfield 7, 3) := by decide +kernel
theorem dM_init_11 : decode cM_init 11 = .ok (.aload_n 0, 1) := by decide +kernel
theorem dM_init_12 : decode cM_init 12 = .ok (.iconst 3, 1) := by decide +kernel
theorem dM_init_13 : decode cM_init 13 = .ok (.newarray .int, 2) := by decide +kernel
theorem dM_init_15 : decode cM_init 15 = .ok (.putfield 13, 3) := by decide +kernel
theorem dM_init_18 : decode cM_init 18 = .ok (.aload_n 0, 1) := by decide +kernel
theorem dM_init_19 : decode cM_init 19 = .ok (.iconst 3, 1) := by decide +kernel
theorem dM_init_20 : decode cM_init 20 = .ok (.newarray .int, 2) := by decide +kernel
theorem dM_init_22 : decode cM_init 22 = .ok (.putfield 16, 3) := by decide +kernel
theorem dM_init_25 : decode cM_init 25 = .ok (.aload_n 0, 1) := by decide +kernel
theorem dM_init_26 : decode cM_init 26 = .ok (.sipush 512, 3) := by decide +kernel
theorem dM_init_29 : decode cM_init 29 = .ok (.newarray .boolean, 2) := by decide +kernel
theorem dM_init_31 : decode cM_init 31 = .ok (.putfield 19, 3) := by decide +kernel
theorem dM_init_34 : decode cM_init 34 = .ok (.aload_n 0, 1) := by decide +kernel
theorem dM_init_35 : decode cM_init 35 = .ok (.sipush 512, 3) := by decide +kernel
theorem dM_init_38 : decode cM_init 38 = .ok (.newarray .int, 2) := by decide +kernel
theorem dM_init_40 : decode cM_init 40 = .ok (.putfield 23, 3) := by decide +kernel
theorem dM_init_43 : decode cM_init 43 = .ok (.aload_n 0, 1) := by decide +kernel
theorem dM_init_44 : decode cM_init 44 = .ok (.sipush 512, 3) := by decide +kernel
theorem dM_init_47 : decode cM_init 47 = .ok (.newarray .int, 2) := by decide +kernel
theorem dM_init_49 : decode cM_init 49 = .ok (.putfield 26, 3) := by decide +kernel
theorem dM_init_52 : decode cM_init 52 = .ok (.aload_n 0, 1) := by decide +kernel
theorem dM_init_53 : decode cM_init 53 = .ok (.sipush 512, 3) := by decide +kernel
theorem dM_init_56 : decode cM_init 56 = .ok (.newarray .int, 2) := by decide +kernel
theorem dM_init_58 : decode cM_init 58 = .ok (.putfield 29, 3) := by decide +kernel
theorem dM_init_61 : decode cM_init 61 = .ok (.aload_n 0, 1) := by decide +kernel
theorem dM_init_62 : decode cM_init 62 = .ok (.getfield 13, 3) := by decide +kernel
theorem dM_init_65 : decode cM_init 65 = .ok (.iconst 1, 1) := by decide +kernel
theorem dM_init_66 : decode cM_init 66 = .ok (.iload_n 1, 1) := by decide +kernel
theorem dM_init_67 : decode cM_init 67 = .ok (.iastore, 1) := by decide +kernel
theorem dM_init_68 : decode cM_init 68 = .ok (.aload_n 0, 1) := by decide +kernel
theorem dM_init_69 : decode cM_init 69 = .ok (.getfield 13, 3) := by decide +kernel
theorem dM_init_72 : decode cM_init 72 = .ok (.iconst 2, 1) := by decide +kernel
theorem dM_init_73 : decode cM_init 73 = .ok (.iload_n 2, 1) := by decide +kernel
theorem dM_init_74 : decode cM_init 74 = .ok (.iastore, 1) := by decide +kernel
theorem dM_init_75 : decode cM_init 75 = .ok (.return_, 1) := by decide +kernel
theorem dM_has_0 : decode cM_has 0 = .ok (.iload_n 0, 1) := by decide +kernel
theorem dM_has_1 : decode cM_has 1 = .ok (.iload_n 1, 1) := by decide +kernel
theorem dM_has_2 : decode cM_has 2 = .ok (.iand, 1) := by decide +kernel
theorem dM_has_3 : decode cM_has 3 = .ok (.ifCond .eq 7, 3) := by decide +kernel
theorem dM_has_6 : decode cM_has 6 = .ok (.iconst 1, 1) := by decide +kernel
theorem dM_has_7 : decode cM_has 7 = .ok (.goto 4, 3) := by decide +kernel
theorem dM_has_10 : decode cM_has 10 = .ok (.iconst 0, 1) := by decide +kernel
theorem dM_has_11 : decode cM_has 11 = .ok (.ireturn, 1) := by decide +kernel
theorem dM_half_0 : decode cM_half 0 = .ok (.iload_n 2, 1) := by decide +kernel
theorem dM_half_1 : decode cM_half 1 = .ok (.ldc 32, 2) := by decide +kernel
theorem dM_half_3 : decode cM_half 3 = .ok (.imul, 1) := by decide +kernel
theorem dM_half_4 : decode cM_half 4 = .ok (.iload_n 0, 1) := by decide +kernel
theorem dM_half_5 : decode cM_half 5 = .ok (.bipush 8, 2) := by decide +kernel
theorem dM_half_7 : decode cM_half 7 = .ok (.iload_n 1, 1) := by decide +kernel
theorem dM_half_8 : decode cM_half 8 = .ok (.imul, 1) := by decide +kernel
theorem dM_half_9 : decode cM_half 9 = .ok (.iushr, 1) := by decide +kernel
theorem dM_half_10 : decode cM_half 10 = .ok (.sipush 255, 3) := by decide +kernel
theorem dM_half_13 : decode cM_half 13 = .ok (.iand, 1) := by decide +kernel
theorem dM_half_14 : decode cM_half 14 = .ok (.sipush 257, 3) := by decide +kernel
theorem dM_half_17 : decode cM_half 17 = .ok (.imul, 1) := by decide +kernel
theorem dM_half_18 : decode cM_half 18 = .ok (.iadd, 1) := by decide +kernel
theorem dM_half_19 : decode cM_half 19 = .ok (.iload_n 1, 1) := by decide +kernel
theorem dM_half_20 : decode cM_half 20 = .ok (.sipush 4099, 3) := by decide +kernel
theorem dM_half_23 : decode cM_half 23 = .ok (.imul, 1) := by decide +kernel
theorem dM_half_24 : decode cM_half 24 = .ok (.iadd, 1) := by decide +kernel
theorem dM_half_25 : decode cM_half 25 = .ok (.istore_n 3, 1) := by decide +kernel
theorem dM_half_26 : decode cM_half 26 = .ok (.iload_n 3, 1) := by decide +kernel
theorem dM_half_27 : decode cM_half 27 = .ok (.iload_n 3, 1) := by decide +kernel
theorem dM_half_28 : decode cM_half 28 = .ok (.bipush 7, 2) := by decide +kernel
theorem dM_half_30 : decode cM_half 30 = .ok (.iushr, 1) := by decide +kernel
theorem dM_half_31 : decode cM_half 31 = .ok (.ixor, 1) := by decide +kernel
theorem dM_half_32 : decode cM_half 32 = .ok (.ldc 33, 2) := by decide +kernel
theorem dM_half_34 : decode cM_half 34 = .ok (.iand, 1) := by decide +kernel
theorem dM_half_35 : decode cM_half 35 = .ok (.ireturn, 1) := by decide +kernel
theorem dM_rounds_0 : decode cM_rounds 0 = .ok (.iload_n 2, 1) := by decide +kernel
theorem dM_rounds_1 : decode cM_rounds 1 = .ok (.ifCond .eq 10, 3) := by decide +kernel
theorem dM_rounds_4 : decode cM_rounds 4 = .ok (.iload_n 1, 1) := by decide +kernel
theorem dM_rounds_5 : decode cM_rounds 5 = .ok (.bipush 16, 2) := by decide +kernel
theorem dM_rounds_7 : decode cM_rounds 7 = .ok (.iushr, 1) := by decide +kernel
theorem dM_rounds_8 : decode cM_rounds 8 = .ok (.goto 7, 3) := by decide +kernel
theorem dM_rounds_11 : decode cM_rounds 11 = .ok (.iload_n 1, 1) := by decide +kernel
theorem dM_rounds_12 : decode cM_rounds 12 = .ok (.ldc 33, 2) := by decide +kernel
theorem dM_rounds_14 : decode cM_rounds 14 = .ok (.iand, 1) := by decide +kernel
theorem dM_rounds_15 : decode cM_rounds 15 = .ok (.istore_n 3, 1) := by decide +kernel
theorem dM_rounds_16 : decode cM_rounds 16 = .ok (.iload_n 2, 1) := by decide +kernel
theorem dM_rounds_17 : decode cM_rounds 17 = .ok (.ifCond .eq 10, 3) := by decide +kernel
theorem dM_rounds_20 : decode cM_rounds 20 = .ok (.iload_n 1, 1) := by decide +kernel
theorem dM_rounds_21 : decode cM_rounds 21 = .ok (.ldc 33, 2) := by decide +kernel
theorem dM_rounds_23 : decode cM_rounds 23 = .ok (.iand, 1) := by decide +kernel
theorem dM_rounds_24 : decode cM_rounds 24 = .ok (.goto 7, 3) := by decide +kernel
theorem dM_rounds_27 : decode cM_rounds 27 = .ok (.iload_n 1, 1) := by decide +kernel
theorem dM_rounds_28 : decode cM_rounds 28 = .ok (.bipush 16, 2) := by decide +kernel
theorem dM_rounds_30 : decode cM_rounds 30 = .ok (.iushr, 1) := by decide +kernel
theorem dM_rounds_31 : decode cM_rounds 31 = .ok (.istore 4, 2) := by decide +kernel
theorem dM_rounds_33 : decode cM_rounds 33 = .ok (.iconst 0, 1) := by decide +kernel
theorem dM_rounds_34 : decode cM_rounds 34 = .ok (.istore 5, 2) := by decide +kernel
theorem dM_rounds_36 : decode cM_rounds 36 = .ok (.iload 5, 2) := by decide +kernel
theorem dM_rounds_38 : decode cM_rounds 38 = .ok (.iconst 4, 1) := by decide +kernel
theorem dM_rounds_39 : decode cM_rounds 39 = .ok (.if_icmp .ge 39, 3) := by decide +kernel
theorem dM_rounds_42 : decode cM_rounds 42 = .ok (.iload_n 3, 1) := by decide +kernel
theorem dM_rounds_43 : decode cM_rounds 43 = .ok (.iload_n 0, 1) := by decide +kernel
theorem dM_rounds_44 : decode cM_rounds 44 = .ok (.iload_n 2, 1) := by decide +kernel
theorem dM_rounds_45 : decode cM_rounds 45 = .ok (.ifCond .eq 8, 3) := by decide +kernel
theorem dM_rounds_48 : decode cM_rounds 48 = .ok (.iload 5, 2) := by decide +kernel
theorem dM_rounds_50 : decode cM_rounds 50 = .ok (.goto 7, 3) := by decide +kernel
theorem dM_rounds_53 : decode cM_rounds 53 = .ok (.iconst 3, 1) := by decide +kernel
theorem dM_rounds_54 : decode cM_rounds 54 = .ok (.iload 5, 2) := by decide +kernel
theorem dM_rounds_56 : decode cM_rounds 56 = .ok (.isub, 1) := by decide +kernel
theorem dM_rounds_57 : decode cM_rounds 57 = .ok (.iload 4, 2) := by decide +kernel
theorem dM_rounds_59 : decode cM_rounds 59 = .ok (.invokestatic 34, 3) := by decide +kernel
theorem dM_rounds_62 : decode cM_rounds 62 = .ok (.ixor, 1) := by decide +kernel
theorem dM_rounds_63 : decode cM_rounds 63 = .ok (.istore 6, 2) := by decide +kernel
theorem dM_rounds_65 : decode cM_rounds 65 = .ok (.iload 4, 2) := by decide +kernel
theorem dM_rounds_67 : decode cM_rounds 67 = .ok (.istore_n 3, 1) := by decide +kernel
theorem dM_rounds_68 : decode cM_rounds 68 = .ok (.iload 6, 2) := by decide +kernel
theorem dM_rounds_70 : decode cM_rounds 70 = .ok (.istore 4, 2) := by decide +kernel
theorem dM_rounds_72 : decode cM_rounds 72 = .ok (.iinc 5 1, 3) := by decide +kernel
theorem dM_rounds_75 : decode cM_rounds 75 = .ok (.goto (-39), 3) := by decide +kernel
theorem dM_rounds_78 : decode cM_rounds 78 = .ok (.iload_n 2, 1) := by decide +kernel
theorem dM_rounds_79 : decode cM_rounds 79 = .ok (.ifCond .eq 13, 3) := by decide +kernel
theorem dM_rounds_82 : decode cM_rounds 82 = .ok (.iload_n 3, 1) := by decide +kernel
theorem dM_rounds_83 : decode cM_rounds 83 = .ok (.ldc 38, 2) := by decide +kernel
theorem dM_rounds_85 : decode cM_rounds 85 = .ok (.imul, 1) := by decide +kernel
theorem dM_rounds_86 : decode cM_rounds 86 = .ok (.iload 4, 2) := by decide +kernel
theorem dM_rounds_88 : decode cM_rounds 88 = .ok (.iadd, 1) := by decide +kernel
theorem dM_rounds_89 : decode cM_rounds 89 = .ok (.goto 10, 3) := by decide +kernel
theorem dM_rounds_92 : decode cM_rounds 92 = .ok (.iload 4, 2) := by decide +kernel
theorem dM_rounds_94 : decode cM_rounds 94 = .ok (.ldc 38, 2) := by decide +kernel
theorem dM_rounds_96 : decode cM_rounds 96 = .ok (.imul, 1) := by decide +kernel
theorem dM_rounds_97 : decode cM_rounds 97 = .ok (.iload_n 3, 1) := by decide +kernel
theorem dM_rounds_98 : decode cM_rounds 98 = .ok (.iadd, 1) := by decide +kernel
theorem dM_rounds_99 : decode cM_rounds 99 = .ok (.ireturn, 1) := by decide +kernel
theorem dM_mac_0 : decode cM_mac 0 = .ok (.iload_n 0, 1) := by decide +kernel
theorem dM_mac_1 : decode cM_mac 1 = .ok (.istore_n 2, 1) := by decide +kernel
theorem dM_mac_2 : decode cM_mac 2 = .ok (.iconst 0, 1) := by decide +kernel
theorem dM_mac_3 : decode cM_mac 3 = .ok (.istore_n 3, 1) := by decide +kernel
theorem dM_mac_4 : decode cM_mac 4 = .ok (.iload_n 3, 1) := by decide +kernel
theorem dM_mac_5 : decode cM_mac 5 = .ok (.bipush 32, 2) := by decide +kernel
theorem dM_mac_7 : decode cM_mac 7 = .ok (.if_icmp .ge 29, 3) := by decide +kernel
theorem dM_mac_10 : decode cM_mac 10 = .ok (.iload_n 2, 1) := by decide +kernel
theorem dM_mac_11 : decode cM_mac 11 = .ok (.iload_n 1, 1) := by decide +kernel
theorem dM_mac_12 : decode cM_mac 12 = .ok (.iload_n 3, 1) := by decide +kernel
theorem dM_mac_13 : decode cM_mac 13 = .ok (.iushr, 1) := by decide +kernel
theorem dM_mac_14 : decode cM_mac 14 = .ok (.sipush 255, 3) := by decide +kernel
theorem dM_mac_17 : decode cM_mac 17 = .ok (.iand, 1) := by decide +kernel
theorem dM_mac_18 : decode cM_mac 18 = .ok (.ixor, 1) := by decide +kernel
theorem dM_mac_19 : decode cM_mac 19 = .ok (.ldc 39, 2) := by decide +kernel
theorem dM_mac_21 : decode cM_mac 21 = .ok (.imul, 1) := by decide +kernel
theorem dM_mac_22 : decode cM_mac 22 = .ok (.istore_n 2, 1) := by decide +kernel
theorem dM_mac_23 : decode cM_mac 23 = .ok (.iload_n 2, 1) := by decide +kernel
theorem dM_mac_24 : decode cM_mac 24 = .ok (.iload_n 2, 1) := by decide +kernel
theorem dM_mac_25 : decode cM_mac 25 = .ok (.bipush 13, 2) := by decide +kernel
theorem dM_mac_27 : decode cM_mac 27 = .ok (.iushr, 1) := by decide +kernel
theorem dM_mac_28 : decode cM_mac 28 = .ok (.ixor, 1) := by decide +kernel
theorem dM_mac_29 : decode cM_mac 29 = .ok (.istore_n 2, 1) := by decide +kernel
theorem dM_mac_30 : decode cM_mac 30 = .ok (.iinc 3 8, 3) := by decide +kernel
theorem dM_mac_33 : decode cM_mac 33 = .ok (.goto (-29), 3) := by decide +kernel
theorem dM_mac_36 : decode cM_mac 36 = .ok (.iload_n 2, 1) := by decide +kernel
theorem dM_mac_37 : decode cM_mac 37 = .ok (.ireturn, 1) := by decide +kernel
theorem dM_answer_0 : decode cM_answer 0 = .ok (.iload_n 0, 1) := by decide +kernel
theorem dM_answer_1 : decode cM_answer 1 = .ok (.ifCond .ge 12, 3) := by decide +kernel
theorem dM_answer_4 : decode cM_answer 4 = .ok (.iload_n 0, 1) := by decide +kernel
theorem dM_answer_5 : decode cM_answer 5 = .ok (.i2l, 1) := by decide +kernel
theorem dM_answer_6 : decode cM_answer 6 = .ok (.ldc2_w 40, 3) := by decide +kernel
theorem dM_answer_9 : decode cM_answer 9 = .ok (.ladd, 1) := by decide +kernel
theorem dM_answer_10 : decode cM_answer 10 = .ok (.goto 5, 3) := by decide +kernel
theorem dM_answer_13 : decode cM_answer 13 = .ok (.iload_n 0, 1) := by decide +kernel
theorem dM_answer_14 : decode cM_answer 14 = .ok (.i2l, 1) := by decide +kernel
theorem dM_answer_15 : decode cM_answer 15 = .ok (.lreturn, 1) := by decide +kernel
theorem dM_closed_0 : decode cM_closed 0 = .ok (.iload_n 1, 1) := by decide +kernel
theorem dM_closed_1 : decode cM_closed 1 = .ok (.ifCond .lt 17, 3) := by decide +kernel
theorem dM_closed_4 : decode cM_closed 4 = .ok (.iload_n 1, 1) := by decide +kernel
theorem dM_closed_5 : decode cM_closed 5 = .ok (.iconst 2, 1) := by decide +kernel
theorem dM_closed_6 : decode cM_closed 6 = .ok (.if_icmp .gt 12, 3) := by decide +kernel
theorem dM_closed_9 : decode cM_closed 9 = .ok (.aload_n 0, 1) := by decide +kernel
theorem dM_closed_10 : decode cM_closed 10 = .ok (.getfield 7, 3) := by decide +kernel
theorem dM_closed_13 : decode cM_closed 13 = .ok (.iload_n 1, 1) := by decide +kernel
theorem dM_closed_14 : decode cM_closed 14 = .ok (.iaload, 1) := by decide +kernel
theorem dM_closed_15 : decode cM_closed 15 = .ok (.ifCond .ne 7, 3) := by decide +kernel
theorem dM_closed_18 : decode cM_closed 18 = .ok (.iconst 1, 1) := by decide +kernel
theorem dM_closed_19 : decode cM_closed 19 = .ok (.goto 4, 3) := by decide +kernel
theorem dM_closed_22 : decode cM_closed 22 = .ok (.iconst 0, 1) := by decide +kernel
theorem dM_closed_23 : decode cM_closed 23 = .ok (.ireturn, 1) := by decide +kernel
theorem dM_visible_0 : decode cM_visible 0 = .ok (.aload_n 0, 1) := by decide +kernel
theorem dM_visible_1 : decode cM_visible 1 = .ok (.getfield 19, 3) := by decide +kernel
theorem dM_visible_4 : decode cM_visible 4 = .ok (.iload_n 1, 1) := by decide +kernel
theorem dM_visible_5 : decode cM_visible 5 = .ok (.baload, 1) := by decide +kernel
theorem dM_visible_6 : decode cM_visible 6 = .ok (.ifCond .eq 28, 3) := by decide +kernel
theorem dM_visible_9 : decode cM_visible 9 = .ok (.aload_n 0, 1) := by decide +kernel
theorem dM_visible_10 : decode cM_visible 10 = .ok (.getfield 29, 3) := by decide +kernel
theorem dM_visible_13 : decode cM_visible 13 = .ok (.iload_n 1, 1) := by decide +kernel
theorem dM_visible_14 : decode cM_visible 14 = .ok (.iaload, 1) := by decide +kernel
theorem dM_visible_15 : decode cM_visible 15 = .ok (.iconst 2, 1) := by decide +kernel
theorem dM_visible_16 : decode cM_visible 16 = .ok (.invokestatic 42, 3) := by decide +kernel
theorem dM_visible_19 : decode cM_visible 19 = .ok (.ifCond .eq 11, 3) := by decide +kernel
theorem dM_visible_22 : decode cM_visible 22 = .ok (.aload_n 0, 1) := by decide +kernel
theorem dM_visible_23 : decode cM_visible 23 = .ok (.getfield 46, 3) := by decide +kernel
theorem dM_visible_26 : decode cM_visible 26 = .ok (.iconst 1, 1) := by decide +kernel
theorem dM_visible_27 : decode cM_visible 27 = .ok (.if_icmp .ne 7, 3) := by decide +kernel
theorem dM_visible_30 : decode cM_visible 30 = .ok (.iconst 1, 1) := by decide +kernel
theorem dM_visible_31 : decode cM_visible 31 = .ok (.goto 4, 3) := by decide +kernel
theorem dM_visible_34 : decode cM_visible 34 = .ok (.iconst 0, 1) := by decide +kernel
theorem dM_visible_35 : decode cM_visible 35 = .ok (.ireturn, 1) := by decide +kernel
theorem dM_hidden_0 : decode cM_hidden 0 = .ok (.iload_n 1, 1) := by decide +kernel
theorem dM_hidden_1 : decode cM_hidden 1 = .ok (.iconst 1, 1) := by decide +kernel
theorem dM_hidden_2 : decode cM_hidden 2 = .ok (.if_icmp .lt 21, 3) := by decide +kernel
theorem dM_hidden_5 : decode cM_hidden 5 = .ok (.iload_n 1, 1) := by decide +kernel
theorem dM_hidden_6 : decode cM_hidden 6 = .ok (.aload_n 0, 1) := by decide +kernel
theorem dM_hidden_7 : decode cM_hidden 7 = .ok (.getfield 50, 3) := by decide +kernel
theorem dM_hidden_10 : decode cM_hidden 10 = .ok (.if_icmp .gt 13, 3) := by decide +kernel
theorem dM_hidden_13 : decode cM_hidden 13 = .ok (.aload_n 0, 1) := by decide +kernel
theorem dM_hidden_14 : decode cM_hidden 14 = .ok (.iload_n 1, 1) := by decide +kernel
theorem dM_hidden_15 : decode cM_hidden 15 = .ok (.iconst 1, 1) := by decide +kernel
theorem dM_hidden_16 : decode cM_hidden 16 = .ok (.isub, 1) := by decide +kernel
theorem dM_hidden_17 : decode cM_hidden 17 = .ok (.invokevirtual 53, 3) := by decide +kernel
theorem dM_hidden_20 : decode cM_hidden 20 = .ok (.ifCond .ne 7, 3) := by decide +kernel
theorem dM_hidden_23 : decode cM_hidden 23 = .ok (.iconst 1, 1) := by decide +kernel
theorem dM_hidden_24 : decode cM_hidden 24 = .ok (.goto 4, 3) := by decide +kernel
theorem dM_hidden_27 : decode cM_hidden 27 = .ok (.iconst 0, 1) := by decide +kernel
theorem dM_hidden_28 : decode cM_hidden 28 = .ok (.ireturn, 1) := by decide +kernel
theorem dM_readOnly_0 : decode cM_readOnly 0 = .ok (.aload_n 0, 1) := by decide +kernel
theorem dM_readOnly_1 : decode cM_readOnly 1 = .ok (.getfield 7, 3) := by decide +kernel
theorem dM_readOnly_4 : decode cM_readOnly 4 = .ok (.iload_n 1, 1) := by decide +kernel
theorem dM_readOnly_5 : decode cM_readOnly 5 = .ok (.iaload, 1) := by decide +kernel
theorem dM_readOnly_6 : decode cM_readOnly 6 = .ok (.iconst 1, 1) := by decide +kernel
theorem dM_readOnly_7 : decode cM_readOnly 7 = .ok (.if_icmp .ne 15, 3) := by decide +kernel
theorem dM_readOnly_10 : decode cM_readOnly 10 = .ok (.iload_n 2, 1) := by decide +kernel
theorem dM_readOnly_11 : decode cM_readOnly 11 = .ok (.iconst 1, 1) := by decide +kernel
theorem dM_readOnly_12 : decode cM_readOnly 12 = .ok (.invokestatic 42, 3) := by decide +kernel
theorem dM_readOnly_15 : decode cM_readOnly 15 = .ok (.ifCond .eq 7, 3) := by decide +kernel
theorem dM_readOnly_18 : decode cM_readOnly 18 = .ok (.iconst 1, 1) := by decide +kernel
theorem dM_readOnly_19 : decode cM_readOnly 19 = .ok (.goto 4, 3) := by decide +kernel
theorem dM_readOnly_22 : decode cM_readOnly 22 = .ok (.iconst 0, 1) := by decide +kernel
theorem dM_readOnly_23 : decode cM_readOnly 23 = .ok (.ireturn, 1) := by decide +kernel
theorem dM_count_0 : decode cM_count 0 = .ok (.iconst 0, 1) := by decide +kernel
theorem dM_count_1 : decode cM_count 1 = .ok (.istore_n 1, 1) := by decide +kernel
theorem dM_count_2 : decode cM_count 2 = .ok (.iconst 0, 1) := by decide +kernel
theorem dM_count_3 : decode cM_count 3 = .ok (.istore_n 2, 1) := by decide +kernel
theorem dM_count_4 : decode cM_count 4 = .ok (.iload_n 2, 1) := by decide +kernel
theorem dM_count_5 : decode cM_count 5 = .ok (.aload_n 0, 1) := by decide +kernel
theorem dM_count_6 : decode cM_count 6 = .ok (.getfield 50, 3) := by decide +kernel
theorem dM_count_9 : decode cM_count 9 = .ok (.if_icmp .ge 26, 3) := by decide +kernel
theorem dM_count_12 : decode cM_count 12 = .ok (.aload_n 0, 1) := by decide +kernel
theorem dM_count_13 : decode cM_count 13 = .ok (.getfield 19, 3) := by decide +kernel
theorem dM_count_16 : decode cM_count 16 = .ok (.iload_n 2, 1) := by decide +kernel
theorem dM_count_17 : decode cM_count 17 = .ok (.baload, 1) := by decide +kernel
theorem dM_count_18 : decode cM_count 18 = .ok (.ifCond .eq 9, 3) := by decide +kernel
theorem dM_count_21 : decode cM_count 21 = .ok (.iload_n 1, 1) := by decide +kernel
theorem dM_count_22 : decode cM_count 22 = .ok (.iconst 1, 1) := by decide +kernel
theorem dM_count_23 : decode cM_count 23 = .ok (.iadd, 1) := by decide +kernel
theorem dM_count_24 : decode cM_count 24 = .ok (.goto 4, 3) := by decide +kernel
theorem dM_count_27 : decode cM_count 27 = .ok (.iload_n 1, 1) := by decide +kernel
theorem dM_count_28 : decode cM_count 28 = .ok (.istore_n 1, 1) := by decide +kernel
theorem dM_count_29 : decode cM_count 29 = .ok (.iinc 2 1, 3) := by decide +kernel
theorem dM_count_32 : decode cM_count 32 = .ok (.goto (-28), 3) := by decide +kernel
theorem dM_count_35 : decode cM_count 35 = .ok (.iload_n 1, 1) := by decide +kernel
theorem dM_count_36 : decode cM_count 36 = .ok (.ireturn, 1) := by decide +kernel
theorem dM_good_0 : decode cM_good 0 = .ok (.iload_n 0, 1) := by decide +kernel
theorem dM_good_1 : decode cM_good 1 = .ok (.ifCond .lt 52, 3) := by decide +kernel
theorem dM_good_4 : decode cM_good 4 = .ok (.iload_n 0, 1) := by decide +kernel
theorem dM_good_5 : decode cM_good 5 = .ok (.sipush 511, 3) := by decide +kernel
theorem dM_good_8 : decode cM_good 8 = .ok (.if_icmp .gt 45, 3) := by decide +kernel
theorem dM_good_11 : decode cM_good 11 = .ok (.iload_n 0, 1) := by decide +kernel
theorem dM_good_12 : decode cM_good 12 = .ok (.sipush 128, 3) := by decide +kernel
theorem dM_good_15 : decode cM_good 15 = .ok (.invokestatic 42, 3) := by decide +kernel
theorem dM_good_18 : decode cM_good 18 = .ok (.ifCond .eq 12, 3) := by decide +kernel
theorem dM_good_21 : decode cM_good 21 = .ok (.iload_n 0, 1) := by decide +kernel
theorem dM_good_22 : decode cM_good 22 = .ok (.bipush 32, 2) := by decide +kernel
theorem dM_good_24 : decode cM_good 24 = .ok (.invokestatic 42, 3) := by decide +kernel
theorem dM_good_27 : decode cM_good 27 = .ok (.ifCond .ne 26, 3) := by decide +kernel
theorem dM_good_30 : decode cM_good 30 = .ok (.iload_n 0, 1) := by decide +kernel
theorem dM_good_31 : decode cM_good 31 = .ok (.sipush 256, 3) := by decide +kernel
theorem dM_good_34 : decode cM_good 34 = .ok (.invokestatic 42, 3) := by decide +kernel
theorem dM_good_37 : decode cM_good 37 = .ok (.ifCond .eq 12, 3) := by decide +kernel
theorem dM_good_40 : decode cM_good 40 = .ok (.iload_n 0, 1) := by decide +kernel
theorem dM_good_41 : decode cM_good 41 = .ok (.bipush 16, 2) := by decide +kernel
theorem dM_good_43 : decode cM_good 43 = .ok (.invokestatic 42, 3) := by decide +kernel
theorem dM_good_46 : decode cM_good 46 = .ok (.ifCond .ne 7, 3) := by decide +kernel
theorem dM_good_49 : decode cM_good 49 = .ok (.iconst 1, 1) := by decide +kernel
theorem dM_good_50 : decode cM_good 50 = .ok (.goto 4, 3) := by decide +kernel
theorem dM_good_53 : decode cM_good 53 = .ok (.iconst 0, 1) := by decide +kernel
theorem dM_good_54 : decode cM_good 54 = .ok (.ireturn, 1) := by decide +kernel
theorem dM_obstacle_0 : decode cM_obstacle 0 = .ok (.iload_n 2, 1) := by decide +kernel
theorem dM_obstacle_1 : decode cM_obstacle 1 = .ok (.iconst 2, 1) := by decide +kernel
theorem dM_obstacle_2 : decode cM_obstacle 2 = .ok (.invokestatic 42, 3) := by decide +kernel
theorem dM_obstacle_5 : decode cM_obstacle 5 = .ok (.ifCond .eq 14, 3) := by decide +kernel
theorem dM_obstacle_8 : decode cM_obstacle 8 = .ok (.aload_n 0, 1) := by decide +kernel
theorem dM_obstacle_9 : decode cM_obstacle 9 = .ok (.getfield 46, 3) := by decide +kernel
theorem dM_obstacle_12 : decode cM_obstacle 12 = .ok (.iconst 1, 1) := by decide +kernel
theorem dM_obstacle_13 : decode cM_obstacle 13 = .ok (.if_icmp .eq 6, 3) := by decide +kernel
theorem dM_obstacle_16 : decode cM_obstacle 16 = .ok (.bipush (-3), 2) := by decide +kernel
theorem dM_obstacle_18 : decode cM_obstacle 18 = .ok (.ireturn, 1) := by decide +kernel
theorem dM_obstacle_19 : decode cM_obstacle 19 = .ok (.aload_n 0, 1) := by decide +kernel
theorem dM_obstacle_20 : decode cM_obstacle 20 = .ok (.iload_n 1, 1) := by decide +kernel
theorem dM_obstacle_21 : decode cM_obstacle 21 = .ok (.iload_n 2, 1) := by decide +kernel
theorem dM_obstacle_22 : decode cM_obstacle 22 = .ok (.invokevirtual 57, 3) := by decide +kernel
theorem dM_obstacle_25 : decode cM_obstacle 25 = .ok (.ifCond .eq 6, 3) := by decide +kernel
theorem dM_obstacle_28 : decode cM_obstacle 28 = .ok (.bipush (-4), 2) := by decide +kernel
theorem dM_obstacle_30 : decode cM_obstacle 30 = .ok (.ireturn, 1) := by decide +kernel
theorem dM_obstacle_31 : decode cM_obstacle 31 = .ok (.iload_n 2, 1) := by decide +kernel
theorem dM_obstacle_32 : decode cM_obstacle 32 = .ok (.invokestatic 60, 3) := by decide +kernel
theorem dM_obstacle_35 : decode cM_obstacle 35 = .ok (.ifCond .eq 7, 3) := by decide +kernel
theorem dM_obstacle_38 : decode cM_obstacle 38 = .ok (.iload_n 3, 1) := by decide +kernel
theorem dM_obstacle_39 : decode cM_obstacle 39 = .ok (.ifCond .eq 6, 3) := by decide +kernel
theorem dM_obstacle_42 : decode cM_obstacle 42 = .ok (.bipush (-5), 2) := by decide +kernel
theorem dM_obstacle_44 : decode cM_obstacle 44 = .ok (.ireturn, 1) := by decide +kernel
theorem dM_obstacle_45 : decode cM_obstacle 45 = .ok (.aload_n 0, 1) := by decide +kernel
theorem dM_obstacle_46 : decode cM_obstacle 46 = .ok (.invokevirtual 63, 3) := by decide +kernel
theorem dM_obstacle_49 : decode cM_obstacle 49 = .ok (.bipush 10, 2) := by decide +kernel
theorem dM_obstacle_51 : decode cM_obstacle 51 = .ok (.if_icmp .lt 8, 3) := by decide +kernel
theorem dM_obstacle_54 : decode cM_obstacle 54 = .ok (.bipush (-6), 2) := by decide +kernel
theorem dM_obstacle_56 : decode cM_obstacle 56 = .ok (.goto 4, 3) := by decide +kernel
theorem dM_obstacle_59 : decode cM_obstacle 59 = .ok (.iconst 0, 1) := by decide +kernel
theorem dM_obstacle_60 : decode cM_obstacle 60 = .ok (.ireturn, 1) := by decide +kernel
theorem dM_enter_0 : decode cM_enter 0 = .ok (.aload_n 0, 1) := by decide +kernel
theorem dM_enter_1 : decode cM_enter 1 = .ok (.getfield 19, 3) := by decide +kernel
theorem dM_enter_4 : decode cM_enter 4 = .ok (.aload_n 0, 1) := by decide +kernel
theorem dM_enter_5 : decode cM_enter 5 = .ok (.getfield 50, 3) := by decide +kernel
theorem dM_enter_8 : decode cM_enter 8 = .ok (.iconst 1, 1) := by decide +kernel
theorem dM_enter_9 : decode cM_enter 9 = .ok (.bastore, 1) := by decide +kernel
theorem dM_enter_10 : decode cM_enter 10 = .ok (.aload_n 0, 1) := by decide +kernel
theorem dM_enter_11 : decode cM_enter 11 = .ok (.getfield 23, 3) := by decide +kernel
theorem dM_enter_14 : decode cM_enter 14 = .ok (.aload_n 0, 1) := by decide +kernel
theorem dM_enter_15 : decode cM_enter 15 = .ok (.getfield 50, 3) := by decide +kernel
theorem dM_enter_18 : decode cM_enter 18 = .ok (.iload_n 3, 1) := by decide +kernel
theorem dM_enter_19 : decode cM_enter 19 = .ok (.iastore, 1) := by decide +kernel
theorem dM_enter_20 : decode cM_enter 20 = .ok (.aload_n 0, 1) := by decide +kernel
theorem dM_enter_21 : decode cM_enter 21 = .ok (.getfield 26, 3) := by decide +kernel
theorem dM_enter_24 : decode cM_enter 24 = .ok (.aload_n 0, 1) := by decide +kernel
theorem dM_enter_25 : decode cM_enter 25 = .ok (.getfield 50, 3) := by decide +kernel
theorem dM_enter_28 : decode cM_enter 28 = .ok (.iload_n 1, 1) := by decide +kernel
theorem dM_enter_29 : decode cM_enter 29 = .ok (.iastore, 1) := by decide +kernel
theorem dM_enter_30 : decode cM_enter 30 = .ok (.aload_n 0, 1) := by decide +kernel
theorem dM_enter_31 : decode cM_enter 31 = .ok (.getfield 29, 3) := by decide +kernel
theorem dM_enter_34 : decode cM_enter 34 = .ok (.aload_n 0, 1) := by decide +kernel
theorem dM_enter_35 : decode cM_enter 35 = .ok (.getfield 50, 3) := by decide +kernel
theorem dM_enter_38 : decode cM_enter 38 = .ok (.iload_n 2, 1) := by decide +kernel
theorem dM_enter_39 : decode cM_enter 39 = .ok (.iastore, 1) := by decide +kernel
theorem dM_enter_40 : decode cM_enter 40 = .ok (.aload_n 0, 1) := by decide +kernel
theorem dM_enter_41 : decode cM_enter 41 = .ok (.dup, 1) := by decide +kernel
theorem dM_enter_42 : decode cM_enter 42 = .ok (.getfield 50, 3) := by decide +kernel
theorem dM_enter_45 : decode cM_enter 45 = .ok (.iconst 1, 1) := by decide +kernel
theorem dM_enter_46 : decode cM_enter 46 = .ok (.iadd, 1) := by decide +kernel
theorem dM_enter_47 : decode cM_enter 47 = .ok (.putfield 50, 3) := by decide +kernel
theorem dM_enter_50 : decode cM_enter 50 = .ok (.aload_n 0, 1) := by decide +kernel
theorem dM_enter_51 : decode cM_enter 51 = .ok (.getfield 50, 3) := by decide +kernel
theorem dM_enter_54 : decode cM_enter 54 = .ok (.ireturn, 1) := by decide +kernel
theorem dM_open_0 : decode cM_open 0 = .ok (.iload_n 1, 1) := by decide +kernel
theorem dM_open_1 : decode cM_open 1 = .ok (.ifCond .ne 14, 3) := by decide +kernel
theorem dM_open_4 : decode cM_open 4 = .ok (.aload_n 0, 1) := by decide +kernel
theorem dM_open_5 : decode cM_open 5 = .ok (.getfield 46, 3) := by decide +kernel
theorem dM_open_8 : decode cM_open 8 = .ok (.iconst 2, 1) := by decide +kernel
theorem dM_open_9 : decode cM_open 9 = .ok (.if_icmp .ne 6, 3) := by decide +kernel
theorem dM_open_12 : decode cM_open 12 = .ok (.bipush (-3), 2) := by decide +kernel
theorem dM_open_14 : decode cM_open 14 = .ok (.ireturn, 1) := by decide +kernel
theorem dM_open_15 : decode cM_open 15 = .ok (.iconst 0, 1) := by decide +kernel
theorem dM_open_16 : decode cM_open 16 = .ok (.istore_n 2, 1) := by decide +kernel
theorem dM_open_17 : decode cM_open 17 = .ok (.iload_n 2, 1) := by decide +kernel
theorem dM_open_18 : decode cM_open 18 = .ok (.iconst 3, 1) := by decide +kernel
theorem dM_open_19 : decode cM_open 19 = .ok (.if_icmp .ge 35, 3) := by decide +kernel
theorem dM_open_22 : decode cM_open 22 = .ok (.aload_n 0, 1) := by decide +kernel
theorem dM_open_23 : decode cM_open 23 = .ok (.getfield 7, 3) := by decide +kernel
theorem dM_open_26 : decode cM_open 26 = .ok (.iload_n 2, 1) := by decide +kernel
theorem dM_open_27 : decode cM_open 27 = .ok (.iaload, 1) := by decide +kernel
theorem dM_open_28 : decode cM_open 28 = .ok (.ifCond .ne 20, 3) := by decide +kernel
theorem dM_open_31 : decode cM_open 31 = .ok (.aload_n 0, 1) := by decide +kernel
theorem dM_open_32 : decode cM_open 32 = .ok (.getfield 7, 3) := by decide +kernel
theorem dM_open_35 : decode cM_open 35 = .ok (.iload_n 2, 1) := by decide +kernel
theorem dM_open_36 : decode cM_open 36 = .ok (.iload_n 1, 1) := by decide +kernel
theorem dM_open_37 : decode cM_open 37 = .ok (.ifCond .eq 7, 3) := by decide +kernel
theorem dM_open_40 : decode cM_open 40 = .ok (.iconst 2, 1) := by decide +kernel
theorem dM_open_41 : decode cM_open 41 = .ok (.goto 4, 3) := by decide +kernel
theorem dM_open_44 : decode cM_open 44 = .ok (.iconst 1, 1) := by decide +kernel
theorem dM_open_45 : decode cM_open 45 = .ok (.iastore, 1) := by decide +kernel
theorem dM_open_46 : decode cM_open 46 = .ok (.iload_n 2, 1) := by decide +kernel
theorem dM_open_47 : decode cM_open 47 = .ok (.ireturn, 1) := by decide +kernel
theorem dM_open_48 : decode cM_open 48 = .ok (.iinc 2 1, 3) := by decide +kernel
theorem dM_open_51 : decode cM_open 51 = .ok (.goto (-34), 3) := by decide +kernel
theorem dM_open_54 : decode cM_open 54 = .ok (.bipush (-6), 2) := by decide +kernel
theorem dM_open_56 : decode cM_open 56 = .ok (.ireturn, 1) := by decide +kernel
theorem dM_close_0 : decode cM_close 0 = .ok (.aload_n 0, 1) := by decide +kernel
theorem dM_close_1 : decode cM_close 1 = .ok (.iload_n 1, 1) := by decide +kernel
theorem dM_close_2 : decode cM_close 2 = .ok (.invokevirtual 67, 3) := by decide +kernel
theorem dM_close_5 : decode cM_close 5 = .ok (.ifCond .eq 5, 3) := by decide +kernel
theorem dM_close_8 : decode cM_close 8 = .ok (.iconst (-1), 1) := by decide +kernel
theorem dM_close_9 : decode cM_close 9 = .ok (.ireturn, 1) := by decide +kernel
theorem dM_close_10 : decode cM_close 10 = .ok (.aload_n 0, 1) := by decide +kernel
theorem dM_close_11 : decode cM_close 11 = .ok (.getfield 7, 3) := by decide +kernel
theorem dM_close_14 : decode cM_close 14 = .ok (.iload_n 1, 1) := by decide +kernel
theorem dM_close_15 : decode cM_close 15 = .ok (.iconst 0, 1) := by decide +kernel
theorem dM_close_16 : decode cM_close 16 = .ok (.iastore, 1) := by decide +kernel
