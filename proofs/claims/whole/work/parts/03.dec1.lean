theorem dX0_init_0 : decode cX0_init 0 = .ok (.aload_n 0, 1) := by decide +kernel
theorem dX0_init_1 : decode cX0_init 1 = .ok (.invokespecial 3, 3) := by decide +kernel
theorem dX0_init_4 : decode cX0_init 4 = .ok (.aload_n 0, 1) := by decide +kernel
theorem dX0_init_5 : decode cX0_init 5 = .ok (.bipush 100, 2) := by decide +kernel
theorem dX0_init_7 : decode cX0_init 7 = .ok (.newarray .long, 2) := by decide +kernel
theorem dX0_init_9 : decode cX0_init 9 = .ok (.putfield 9, 3) := by decide +kernel
theorem dX0_init_12 : decode cX0_init 12 = .ok (.aload_n 0, 1) := by decide +kernel
theorem dX0_init_13 : decode cX0_init 13 = .ok (.bipush 100, 2) := by decide +kernel
theorem dX0_init_15 : decode cX0_init 15 = .ok (.newarray .long, 2) := by decide +kernel
theorem dX0_init_17 : decode cX0_init 17 = .ok (.putfield 15, 3) := by decide +kernel
theorem dX0_init_20 : decode cX0_init 20 = .ok (.return_, 1) := by decide +kernel
theorem dX0_open_0 : decode cX0_open 0 = .ok (.aload_n 0, 1) := by decide +kernel
theorem dX0_open_1 : decode cX0_open 1 = .ok (.iload_n 1, 1) := by decide +kernel
theorem dX0_open_2 : decode cX0_open 2 = .ok (.putfield 18, 3) := by decide +kernel
theorem dX0_open_5 : decode cX0_open 5 = .ok (.aload_n 0, 1) := by decide +kernel
theorem dX0_open_6 : decode cX0_open 6 = .ok (.getfield 9, 3) := by decide +kernel
theorem dX0_open_9 : decode cX0_open 9 = .ok (.lconst 0, 1) := by decide +kernel
theorem dX0_open_10 : decode cX0_open 10 = .ok (.invokestatic 22, 3) := by decide +kernel
theorem dX0_open_13 : decode cX0_open 13 = .ok (.aload_n 0, 1) := by decide +kernel
theorem dX0_open_14 : decode cX0_open 14 = .ok (.getfield 15, 3) := by decide +kernel
theorem dX0_open_17 : decode cX0_open 17 = .ok (.lconst 0, 1) := by decide +kernel
theorem dX0_open_18 : decode cX0_open 18 = .ok (.invokestatic 22, 3) := by decide +kernel
theorem dX0_open_21 : decode cX0_open 21 = .ok (.return_, 1) := by decide +kernel
theorem dX0_offer_0 : decode cX0_offer 0 = .ok (.iload_n 3, 1) := by decide +kernel
theorem dX0_offer_1 : decode cX0_offer 1 = .ok (.i2l, 1) := by decide +kernel
theorem dX0_offer_2 : decode cX0_offer 2 = .ok (.ldc2_w 28, 3) := by decide +kernel
theorem dX0_offer_5 : decode cX0_offer 5 = .ok (.lmul, 1) := by decide +kernel
theorem dX0_offer_6 : decode cX0_offer 6 = .ok (.iload_n 2, 1) := by decide +kernel
theorem dX0_offer_7 : decode cX0_offer 7 = .ok (.i2l, 1) := by decide +kernel
theorem dX0_offer_8 : decode cX0_offer 8 = .ok (.lsub, 1) := by decide +kernel
theorem dX0_offer_9 : decode cX0_offer 9 = .ok (.lstore 5, 2) := by decide +kernel
theorem dX0_offer_11 : decode cX0_offer 11 = .ok (.aload_n 0, 1) := by decide +kernel
theorem dX0_offer_12 : decode cX0_offer 12 = .ok (.getfield 18, 3) := by decide +kernel
theorem dX0_offer_15 : decode cX0_offer 15 = .ok (.istore 7, 2) := by decide +kernel
theorem dX0_offer_17 : decode cX0_offer 17 = .ok (.iload 7, 2) := by decide +kernel
theorem dX0_offer_19 : decode cX0_offer 19 = .ok (.iload_n 2, 1) := by decide +kernel
theorem dX0_offer_20 : decode cX0_offer 20 = .ok (.if_icmp .lt 83, 3) := by decide +kernel
theorem dX0_offer_23 : decode cX0_offer 23 = .ok (.aload_n 0, 1) := by decide +kernel
theorem dX0_offer_24 : decode cX0_offer 24 = .ok (.getfield 9, 3) := by decide +kernel
theorem dX0_offer_27 : decode cX0_offer 27 = .ok (.iload 7, 2) := by decide +kernel
theorem dX0_offer_29 : decode cX0_offer 29 = .ok (.iload_n 2, 1) := by decide +kernel
theorem dX0_offer_30 : decode cX0_offer 30 = .ok (.isub, 1) := by decide +kernel
theorem dX0_offer_31 : decode cX0_offer 31 = .ok (.laload, 1) := by decide +kernel
theorem dX0_offer_32 : decode cX0_offer 32 = .ok (.lload 5, 2) := by decide +kernel
theorem dX0_offer_34 : decode cX0_offer 34 = .ok (.ladd, 1) := by decide +kernel
theorem dX0_offer_35 : decode cX0_offer 35 = .ok (.lstore 8, 2) := by decide +kernel
theorem dX0_offer_37 : decode cX0_offer 37 = .ok (.lload 8, 2) := by decide +kernel
theorem dX0_offer_39 : decode cX0_offer 39 = .ok (.aload_n 0, 1) := by decide +kernel
theorem dX0_offer_40 : decode cX0_offer 40 = .ok (.getfield 9, 3) := by decide +kernel
theorem dX0_offer_43 : decode cX0_offer 43 = .ok (.iload 7, 2) := by decide +kernel
theorem dX0_offer_45 : decode cX0_offer 45 = .ok (.laload, 1) := by decide +kernel
theorem dX0_offer_46 : decode cX0_offer 46 = .ok (.lcmp, 1) := by decide +kernel
theorem dX0_offer_47 : decode cX0_offer 47 = .ok (.ifCond .gt 21, 3) := by decide +kernel
theorem dX0_offer_50 : decode cX0_offer 50 = .ok (.iload 4, 2) := by decide +kernel
theorem dX0_offer_52 : decode cX0_offer 52 = .ok (.ifCond .eq 45, 3) := by decide +kernel
theorem dX0_offer_55 : decode cX0_offer 55 = .ok (.lload 8, 2) := by decide +kernel
theorem dX0_offer_57 : decode cX0_offer 57 = .ok (.aload_n 0, 1) := by decide +kernel
theorem dX0_offer_58 : decode cX0_offer 58 = .ok (.getfield 9, 3) := by decide +kernel
theorem dX0_offer_61 : decode cX0_offer 61 = .ok (.iload 7, 2) := by decide +kernel
theorem dX0_offer_63 : decode cX0_offer 63 = .ok (.laload, 1) := by decide +kernel
theorem dX0_offer_64 : decode cX0_offer 64 = .ok (.lcmp, 1) := by decide +kernel
theorem dX0_offer_65 : decode cX0_offer 65 = .ok (.ifCond .ne 32, 3) := by decide +kernel
theorem dX0_offer_68 : decode cX0_offer 68 = .ok (.aload_n 0, 1) := by decide +kernel
theorem dX0_offer_69 : decode cX0_offer 69 = .ok (.getfield 9, 3) := by decide +kernel
theorem dX0_offer_72 : decode cX0_offer 72 = .ok (.iload 7, 2) := by decide +kernel
theorem dX0_offer_74 : decode cX0_offer 74 = .ok (.lload 8, 2) := by decide +kernel
theorem dX0_offer_76 : decode cX0_offer 76 = .ok (.lastore, 1) := by decide +kernel
theorem dX0_offer_77 : decode cX0_offer 77 = .ok (.aload_n 0, 1) := by decide +kernel
theorem dX0_offer_78 : decode cX0_offer 78 = .ok (.getfield 15, 3) := by decide +kernel
theorem dX0_offer_81 : decode cX0_offer 81 = .ok (.iload 7, 2) := by decide +kernel
theorem dX0_offer_83 : decode cX0_offer 83 = .ok (.aload_n 0, 1) := by decide +kernel
theorem dX0_offer_84 : decode cX0_offer 84 = .ok (.getfield 15, 3) := by decide +kernel
theorem dX0_offer_87 : decode cX0_offer 87 = .ok (.iload 7, 2) := by decide +kernel
theorem dX0_offer_89 : decode cX0_offer 89 = .ok (.iload_n 2, 1) := by decide +kernel
theorem dX0_offer_90 : decode cX0_offer 90 = .ok (.isub, 1) := by decide +kernel
theorem dX0_offer_91 : decode cX0_offer 91 = .ok (.laload, 1) := by decide +kernel
theorem dX0_offer_92 : decode cX0_offer 92 = .ok (.lconst 1, 1) := by decide +kernel
theorem dX0_offer_93 : decode cX0_offer 93 = .ok (.iload_n 1, 1) := by decide +kernel
theorem dX0_offer_94 : decode cX0_offer 94 = .ok (.lshl, 1) := by decide +kernel
theorem dX0_offer_95 : decode cX0_offer 95 = .ok (.lor, 1) := by decide +kernel
theorem dX0_offer_96 : decode cX0_offer 96 = .ok (.lastore, 1) := by decide +kernel
theorem dX0_offer_97 : decode cX0_offer 97 = .ok (.iinc 7 (-1), 3) := by decide +kernel
theorem dX0_offer_100 : decode cX0_offer 100 = .ok (.goto (-83), 3) := by decide +kernel
theorem dX0_offer_103 : decode cX0_offer 103 = .ok (.return_, 1) := by decide +kernel
theorem dX0_picked_0 : decode cX0_picked 0 = .ok (.aload_n 0, 1) := by decide +kernel
theorem dX0_picked_1 : decode cX0_picked 1 = .ok (.getfield 15, 3) := by decide +kernel
theorem dX0_picked_4 : decode cX0_picked 4 = .ok (.aload_n 0, 1) := by decide +kernel
theorem dX0_picked_5 : decode cX0_picked 5 = .ok (.getfield 18, 3) := by decide +kernel
theorem dX0_picked_8 : decode cX0_picked 8 = .ok (.laload, 1) := by decide +kernel
theorem dX0_picked_9 : decode cX0_picked 9 = .ok (.lreturn, 1) := by decide +kernel
theorem dX1_init_0 : decode cX1_init 0 = .ok (.aload_n 0, 1) := by decide +kernel
theorem dX1_init_1 : decode cX1_init 1 = .ok (.invokespecial 3, 3) := by decide +kernel
theorem dX1_init_4 : decode cX1_init 4 = .ok (.aload_n 0, 1) := by decide +kernel
theorem dX1_init_5 : decode cX1_init 5 = .ok (.bipush 10, 2) := by decide +kernel
theorem dX1_init_7 : decode cX1_init 7 = .ok (.bipush 60, 2) := by decide +kernel
theorem dX1_init_9 : decode cX1_init 9 = .ok (.multianewarray 9 2, 4) := by decide +kernel
theorem dX1_init_13 : decode cX1_init 13 = .ok (.putfield 11, 3) := by decide +kernel
theorem dX1_init_16 : decode cX1_init 16 = .ok (.aload_n 0, 1) := by decide +kernel
theorem dX1_init_17 : decode cX1_init 17 = .ok (.bipush 10, 2) := by decide +kernel
theorem dX1_init_19 : decode cX1_init 19 = .ok (.bipush 60, 2) := by decide +kernel
theorem dX1_init_21 : decode cX1_init 21 = .ok (.multianewarray 9 2, 4) := by decide +kernel
theorem dX1_init_25 : decode cX1_init 25 = .ok (.putfield 16, 3) := by decide +kernel
theorem dX1_init_28 : decode cX1_init 28 = .ok (.aload_n 0, 1) := by decide +kernel
theorem dX1_init_29 : decode cX1_init 29 = .ok (.bipush 10, 2) := by decide +kernel
theorem dX1_init_31 : decode cX1_init 31 = .ok (.bipush 10, 2) := by decide +kernel
theorem dX1_init_33 : decode cX1_init 33 = .ok (.multianewarray 9 2, 4) := by decide +kernel
theorem dX1_init_37 : decode cX1_init 37 = .ok (.putfield 19, 3) := by decide +kernel
theorem dX1_init_40 : decode cX1_init 40 = .ok (.aload_n 0, 1) := by decide +kernel
theorem dX1_init_41 : decode cX1_init 41 = .ok (.bipush 10, 2) := by decide +kernel
theorem dX1_init_43 : decode cX1_init 43 = .ok (.newarray .int, 2) := by decide +kernel
theorem dX1_init_45 : decode cX1_init 45 = .ok (.putfield 22, 3) := by decide +kernel
theorem dX1_init_48 : decode cX1_init 48 = .ok (.return_, 1) := by decide +kernel
theorem dX1_has_0 : decode cX1_has 0 = .ok (.iload_n 1, 1) := by decide +kernel
theorem dX1_has_1 : decode cX1_has 1 = .ok (.ifCond .lt 15, 3) := by decide +kernel
theorem dX1_has_4 : decode cX1_has 4 = .ok (.iload_n 1, 1) := by decide +kernel
theorem dX1_has_5 : decode cX1_has 5 = .ok (.aload_n 0, 1) := by decide +kernel
theorem dX1_has_6 : decode cX1_has 6 = .ok (.getfield 26, 3) := by decide +kernel
theorem dX1_has_9 : decode cX1_has 9 = .ok (.if_icmp .ge 7, 3) := by decide +kernel
theorem dX1_has_12 : decode cX1_has 12 = .ok (.iconst 1, 1) := by decide +kernel
theorem dX1_has_13 : decode cX1_has 13 = .ok (.goto 4, 3) := by decide +kernel
theorem dX1_has_16 : decode cX1_has 16 = .ok (.iconst 0, 1) := by decide +kernel
theorem dX1_has_17 : decode cX1_has 17 = .ok (.ireturn, 1) := by decide +kernel
theorem dX1_hasFact_0 : decode cX1_hasFact 0 = .ok (.iload_n 2, 1) := by decide +kernel
theorem dX1_hasFact_1 : decode cX1_hasFact 1 = .ok (.ifCond .lt 17, 3) := by decide +kernel
theorem dX1_hasFact_4 : decode cX1_hasFact 4 = .ok (.iload_n 2, 1) := by decide +kernel
theorem dX1_hasFact_5 : decode cX1_hasFact 5 = .ok (.aload_n 0, 1) := by decide +kernel
theorem dX1_hasFact_6 : decode cX1_hasFact 6 = .ok (.getfield 22, 3) := by decide +kernel
theorem dX1_hasFact_9 : decode cX1_hasFact 9 = .ok (.iload_n 1, 1) := by decide +kernel
theorem dX1_hasFact_10 : decode cX1_hasFact 10 = .ok (.iaload, 1) := by decide +kernel
theorem dX1_hasFact_11 : decode cX1_hasFact 11 = .ok (.if_icmp .ge 7, 3) := by decide +kernel
theorem dX1_hasFact_14 : decode cX1_hasFact 14 = .ok (.iconst 1, 1) := by decide +kernel
theorem dX1_hasFact_15 : decode cX1_hasFact 15 = .ok (.goto 4, 3) := by decide +kernel
theorem dX1_hasFact_18 : decode cX1_hasFact 18 = .ok (.iconst 0, 1) := by decide +kernel
theorem dX1_hasFact_19 : decode cX1_hasFact 19 = .ok (.ireturn, 1) := by decide +kernel
theorem dX1_start_0 : decode cX1_start 0 = .ok (.aload_n 0, 1) := by decide +kernel
theorem dX1_start_1 : decode cX1_start 1 = .ok (.getfield 26, 3) := by decide +kernel
theorem dX1_start_4 : decode cX1_start 4 = .ok (.istore_n 2, 1) := by decide +kernel
theorem dX1_start_5 : decode cX1_start 5 = .ok (.aload_n 0, 1) := by decide +kernel
theorem dX1_start_6 : decode cX1_start 6 = .ok (.getfield 22, 3) := by decide +kernel
theorem dX1_start_9 : decode cX1_start 9 = .ok (.iload_n 2, 1) := by decide +kernel
theorem dX1_start_10 : decode cX1_start 10 = .ok (.iload_n 1, 1) := by decide +kernel
theorem dX1_start_11 : decode cX1_start 11 = .ok (.iastore, 1) := by decide +kernel
theorem dX1_start_12 : decode cX1_start 12 = .ok (.aload_n 0, 1) := by decide +kernel
theorem dX1_start_13 : decode cX1_start 13 = .ok (.dup, 1) := by decide +kernel
theorem dX1_start_14 : decode cX1_start 14 = .ok (.getfield 26, 3) := by decide +kernel
theorem dX1_start_17 : decode cX1_start 17 = .ok (.iconst 1, 1) := by decide +kernel
theorem dX1_start_18 : decode cX1_start 18 = .ok (.iadd, 1) := by decide +kernel
theorem dX1_start_19 : decode cX1_start 19 = .ok (.putfield 26, 3) := by decide +kernel
theorem dX1_start_22 : decode cX1_start 22 = .ok (.iload_n 2, 1) := by decide +kernel
theorem dX1_start_23 : decode cX1_start 23 = .ok (.ireturn, 1) := by decide +kernel
theorem dX1_settle_0 : decode cX1_settle 0 = .ok (.iconst 0, 1) := by decide +kernel
theorem dX1_settle_1 : decode cX1_settle 1 = .ok (.istore_n 3, 1) := by decide +kernel
theorem dX1_settle_2 : decode cX1_settle 2 = .ok (.iload_n 3, 1) := by decide +kernel
theorem dX1_settle_3 : decode cX1_settle 3 = .ok (.aload_n 0, 1) := by decide +kernel
theorem dX1_settle_4 : decode cX1_settle 4 = .ok (.getfield 26, 3) := by decide +kernel
theorem dX1_settle_7 : decode cX1_settle 7 = .ok (.if_icmp .ge 66, 3) := by decide +kernel
theorem dX1_settle_10 : decode cX1_settle 10 = .ok (.aload_n 0, 1) := by decide +kernel
theorem dX1_settle_11 : decode cX1_settle 11 = .ok (.iload_n 3, 1) := by decide +kernel
theorem dX1_settle_12 : decode cX1_settle 12 = .ok (.iload_n 1, 1) := by decide +kernel
theorem dX1_settle_13 : decode cX1_settle 13 = .ok (.invokevirtual 30, 3) := by decide +kernel
theorem dX1_settle_16 : decode cX1_settle 16 = .ok (.ifCond .eq 51, 3) := by decide +kernel
theorem dX1_settle_19 : decode cX1_settle 19 = .ok (.aload_n 0, 1) := by decide +kernel
theorem dX1_settle_20 : decode cX1_settle 20 = .ok (.getfield 16, 3) := by decide +kernel
theorem dX1_settle_23 : decode cX1_settle 23 = .ok (.iload_n 3, 1) := by decide +kernel
theorem dX1_settle_24 : decode cX1_settle 24 = .ok (.aaload, 1) := by decide +kernel
theorem dX1_settle_25 : decode cX1_settle 25 = .ok (.iload_n 1, 1) := by decide +kernel
theorem dX1_settle_26 : decode cX1_settle 26 = .ok (.iaload, 1) := by decide +kernel
theorem dX1_settle_27 : decode cX1_settle 27 = .ok (.ifCond .ne 40, 3) := by decide +kernel
theorem dX1_settle_30 : decode cX1_settle 30 = .ok (.aload_n 0, 1) := by decide +kernel
theorem dX1_settle_31 : decode cX1_settle 31 = .ok (.getfield 11, 3) := by decide +kernel
theorem dX1_settle_34 : decode cX1_settle 34 = .ok (.iload_n 3, 1) := by decide +kernel
theorem dX1_settle_35 : decode cX1_settle 35 = .ok (.aaload, 1) := by decide +kernel
theorem dX1_settle_36 : decode cX1_settle 36 = .ok (.iload_n 1, 1) := by decide +kernel
theorem dX1_settle_37 : decode cX1_settle 37 = .ok (.iaload, 1) := by decide +kernel
theorem dX1_settle_38 : decode cX1_settle 38 = .ok (.iload_n 2, 1) := by decide +kernel
theorem dX1_settle_39 : decode cX1_settle 39 = .ok (.if_icmp .ne 7, 3) := by decide +kernel
theorem dX1_settle_42 : decode cX1_settle 42 = .ok (.iconst 1, 1) := by decide +kernel
theorem dX1_settle_43 : decode cX1_settle 43 = .ok (.goto 4, 3) := by decide +kernel
theorem dX1_settle_46 : decode cX1_settle 46 = .ok (.iconst 0, 1) := by decide +kernel
theorem dX1_settle_47 : decode cX1_settle 47 = .ok (.istore 4, 2) := by decide +kernel
theorem dX1_settle_49 : decode cX1_settle 49 = .ok (.aload_n 0, 1) := by decide +kernel
theorem dX1_settle_50 : decode cX1_settle 50 = .ok (.getfield 16, 3) := by decide +kernel
theorem dX1_settle_53 : decode cX1_settle 53 = .ok (.iload_n 3, 1) := by decide +kernel
theorem dX1_settle_54 : decode cX1_settle 54 = .ok (.aaload, 1) := by decide +kernel
theorem dX1_settle_55 : decode cX1_settle 55 = .ok (.iload_n 1, 1) := by decide +kernel
theorem dX1_settle_56 : decode cX1_settle 56 = .ok (.iload 4, 2) := by decide +kernel
theorem dX1_settle_58 : decode cX1_settle 58 = .ok (.ifCond .eq 7, 3) := by decide +kernel
theorem dX1_settle_61 : decode cX1_settle 61 = .ok (.iconst 1, 1) := by decide +kernel
theorem dX1_settle_62 : decode cX1_settle 62 = .ok (.goto 4, 3) := by decide +kernel
theorem dX1_settle_65 : decode cX1_settle 65 = .ok (.iconst 2, 1) := by decide +kernel
theorem dX1_settle_66 : decode cX1_settle 66 = .ok (.iastore, 1) := by decide +kernel
theorem dX1_settle_67 : decode cX1_settle 67 = .ok (.iinc 3 1, 3) := by decide +kernel
theorem dX1_settle_70 : decode cX1_settle 70 = .ok (.goto (-68), 3) := by decide +kernel
theorem dX1_settle_73 : decode cX1_settle 73 = .ok (.return_, 1) := by decide +kernel
theorem dX2_init_0 : decode cX2_init 0 = .ok (.aload_n 0, 1) := by decide +kernel
theorem dX2_init_1 : decode cX2_init 1 = .ok (.invokespecial 3, 3) := by decide +kernel
theorem dX2_init_4 : decode cX2_init 4 = .ok (.aload_n 0, 1) := by decide +kernel
theorem dX2_init_5 : decode cX2_init 5 = .ok (.bipush 60, 2) := by decide +kernel
theorem dX2_init_7 : decode cX2_init 7 = .ok (.newarray .int, 2) := by decide +kernel
theorem dX2_init_9 : decode cX2_init 9 = .ok (.putfield 9, 3) := by decide +kernel
theorem dX2_init_12 : decode cX2_init 12 = .ok (.aload_n 0, 1) := by decide +kernel
theorem dX2_init_13 : decode cX2_init 13 = .ok (.bipush 60, 2) := by decide +kernel
theorem dX2_init_15 : decode cX2_init 15 = .ok (.newarray .int, 2) := by decide +kernel
theorem dX2_init_17 : decode cX2_init 17 = .ok (.putfield 15, 3) := by decide +kernel
theorem dX2_init_20 : decode cX2_init 20 = .ok (.aload_n 0, 1) := by decide +kernel
theorem dX2_init_21 : decode cX2_init 21 = .ok (.bipush 60, 2) := by decide +kernel
theorem dX2_init_23 : decode cX2_init 23 = .ok (.newarray .int, 2) := by decide +kernel
theorem dX2_init_25 : decode cX2_init 25 = .ok (.putfield 18, 3) := by decide +kernel
theorem dX2_init_28 : decode cX2_init 28 = .ok (.aload_n 0, 1) := by decide +kernel
theorem dX2_init_29 : decode cX2_init 29 = .ok (.bipush 60, 2) := by decide +kernel
theorem dX2_init_31 : decode cX2_init 31 = .ok (.newarray .int, 2) := by decide +kernel
theorem dX2_init_33 : decode cX2_init 33 = .ok (.putfield 21, 3) := by decide +kernel
theorem dX2_init_36 : decode cX2_init 36 = .ok (.aload_n 0, 1) := by decide +kernel
theorem dX2_init_37 : decode cX2_init 37 = .ok (.bipush 60, 2) := by decide +kernel
theorem dX2_init_39 : decode cX2_init 39 = .ok (.newarray .int, 2) := by decide +kernel
theorem dX2_init_41 : decode cX2_init 41 = .ok (.putfield 24, 3) := by decide +kernel
theorem dX2_init_44 : decode cX2_init 44 = .ok (.aload_n 0, 1) := by decide +kernel
theorem dX2_init_45 : decode cX2_init 45 = .ok (.bipush 60, 2) := by decide +kernel
theorem dX2_init_47 : decode cX2_init 47 = .ok (.newarray .int, 2) := by decide +kernel
theorem dX2_init_49 : decode cX2_init 49 = .ok (.putfield 27, 3) := by decide +kernel
theorem dX2_init_52 : decode cX2_init 52 = .ok (.aload_n 0, 1) := by decide +kernel
theorem dX2_init_53 : decode cX2_init 53 = .ok (.bipush 6, 2) := by decide +kernel
theorem dX2_init_55 : decode cX2_init 55 = .ok (.newarray .int, 2) := by decide +kernel
theorem dX2_init_57 : decode cX2_init 57 = .ok (.putfield 30, 3) := by decide +kernel
theorem dX2_init_60 : decode cX2_init 60 = .ok (.aload_n 0, 1) := by decide +kernel
theorem dX2_init_61 : decode cX2_init 61 = .ok (.bipush 6, 2) := by decide +kernel
theorem dX2_init_63 : decode cX2_init 63 = .ok (.newarray .int, 2) := by decide +kernel
theorem dX2_init_65 : decode cX2_init 65 = .ok (.putfield 33, 3) := by decide +kernel
theorem dX2_init_68 : decode cX2_init 68 = .ok (.return_, 1) := by decide +kernel
theorem dX2_has_0 : decode cX2_has 0 = .ok (.iload_n 1, 1) := by decide +kernel
theorem dX2_has_1 : decode cX2_has 1 = .ok (.ifCond .lt 15, 3) := by decide +kernel
theorem dX2_has_4 : decode cX2_has 4 = .ok (.iload_n 1, 1) := by decide +kernel
theorem dX2_has_5 : decode cX2_has 5 = .ok (.aload_n 0, 1) := by decide +kernel
theorem dX2_has_6 : decode cX2_has 6 = .ok (.getfield 36, 3) := by decide +kernel
theorem dX2_has_9 : decode cX2_has 9 = .ok (.if_icmp .ge 7, 3) := by decide +kernel
theorem dX2_has_12 : decode cX2_has 12 = .ok (.iconst 1, 1) := by decide +kernel
theorem dX2_has_13 : decode cX2_has 13 = .ok (.goto 4, 3) := by decide +kernel
theorem dX2_has_16 : decode cX2_has 16 = .ok (.iconst 0, 1) := by decide +kernel
theorem dX2_has_17 : decode cX2_has 17 = .ok (.ireturn, 1) := by decide +kernel
theorem dX2_add_0 : decode cX2_add 0 = .ok (.aload_n 0, 1) := by decide +kernel
theorem dX2_add_1 : decode cX2_add 1 = .ok (.getfield 36, 3) := by decide +kernel
theorem dX2_add_4 : decode cX2_add 4 = .ok (.istore 4, 2) := by decide +kernel
theorem dX2_add_6 : decode cX2_add 6 = .ok (.aload_n 0, 1) := by decide +kernel
theorem dX2_add_7 : decode cX2_add 7 = .ok (.getfield 9, 3) := by decide +kernel
theorem dX2_add_10 : decode cX2_add 10 = .ok (.iload 4, 2) := by decide +kernel
theorem dX2_add_12 : decode cX2_add 12 = .ok (.iload_n 1, 1) := by decide +kernel
theorem dX2_add_13 : decode cX2_add 13 = .ok (.iastore, 1) := by decide +kernel
theorem dX2_add_14 : decode cX2_add 14 = .ok (.aload_n 0, 1) := by decide +kernel
theorem dX2_add_15 : decode cX2_add 15 = .ok (.getfield 15, 3) := by decide +kernel
theorem dX2_add_18 : decode cX2_add 18 = .ok (.iload 4, 2) := by decide +kernel
theorem dX2_add_20 : decode cX2_add 20 = .ok (.iload_n 2, 1) := by decide +kernel
theorem dX2_add_21 : decode cX2_add 21 = .ok (.iastore, 1) := by decide +kernel
theorem dX2_add_22 : decode cX2_add 22 = .ok (.aload_n 0, 1) := by decide +kernel
theorem dX2_add_23 : decode cX2_add 23 = .ok (.getfield 18, 3) := by decide +kernel
theorem dX2_add_26 : decode cX2_add 26 = .ok (.iload 4, 2) := by decide +kernel
theorem dX2_add_28 : decode cX2_add 28 = .ok (.iload_n 3, 1) := by decide +kernel
theorem dX2_add_29 : decode cX2_add 29 = .ok (.iastore, 1) := by decide +kernel
theorem dX2_add_30 : decode cX2_add 30 = .ok (.aload_n 0, 1) := by decide +kernel
theorem dX2_add_31 : decode cX2_add 31 = .ok (.getfield 21, 3) := by decide +kernel
theorem dX2_add_34 : decode cX2_add 34 = .ok (.iload 4, 2) := by decide +kernel
theorem dX2_add_36 : decode cX2_add 36 = .ok (.aload_n 0, 1) := by decide +kernel
theorem dX2_add_37 : decode cX2_add 37 = .ok (.getfield 40, 3) := by decide +kernel
theorem dX2_add_40 : decode cX2_add 40 = .ok (.iastore, 1) := by decide +kernel
theorem dX2_add_41 : decode cX2_add 41 = .ok (.aload_n 0, 1) := by decide +kernel
theorem dX2_add_42 : decode cX2_add 42 = .ok (.getfield 24, 3) := by decide +kernel
theorem dX2_add_45 : decode cX2_add 45 = .ok (.iload 4, 2) := by decide +kernel
theorem dX2_add_47 : decode cX2_add 47 = .ok (.iconst 1, 1) := by decide +kernel
theorem dX2_add_48 : decode cX2_add 48 = .ok (.iastore, 1) := by decide +kernel
theorem dX2_add_49 : decode cX2_add 49 = .ok (.aload_n 0, 1) := by decide +kernel
theorem dX2_add_50 : decode cX2_add 50 = .ok (.getfield 27, 3) := by decide +kernel
theorem dX2_add_53 : decode cX2_add 53 = .ok (.iload 4, 2) := by decide +kernel
theorem dX2_add_55 : decode cX2_add 55 = .ok (.iconst 1, 1) := by decide +kernel
theorem dX2_add_56 : decode cX2_add 56 = .ok (.iastore, 1) := by decide +kernel
theorem dX2_add_57 : decode cX2_add 57 = .ok (.aload_n 0, 1) := by decide +kernel
theorem dX2_add_58 : decode cX2_add 58 = .ok (.dup, 1) := by decide +kernel
theorem dX2_add_59 : decode cX2_add 59 = .ok (.getfield 36, 3) := by decide +kernel
theorem dX2_add_62 : decode cX2_add 62 = .ok (.iconst 1, 1) := by decide +kernel
theorem dX2_add_63 : decode cX2_add 63 = .ok (.iadd, 1) := by decide +kernel
theorem dX2_add_64 : decode cX2_add 64 = .ok (.putfield 36, 3) := by decide +kernel
theorem dX2_add_67 : decode cX2_add 67 = .ok (.iload 4, 2) := by decide +kernel
theorem dX2_add_69 : decode cX2_add 69 = .ok (.ireturn, 1) := by decide +kernel
theorem dX2_renew_0 : decode cX2_renew 0 = .ok (.aload_n 0, 1) := by decide +kernel
theorem dX2_renew_1 : decode cX2_renew 1 = .ok (.getfield 18, 3) := by decide +kernel
theorem dX2_renew_4 : decode cX2_renew 4 = .ok (.iload_n 1, 1) := by decide +kernel
theorem dX2_renew_5 : decode cX2_renew 5 = .ok (.iaload, 1) := by decide +kernel
theorem dX2_renew_6 : decode cX2_renew 6 = .ok (.iload_n 2, 1) := by decide +kernel
theorem dX2_renew_7 : decode cX2_renew 7 = .ok (.if_icmp .eq 7, 3) := by decide +kernel
theorem dX2_renew_10 : decode cX2_renew 10 = .ok (.iconst 1, 1) := by decide +kernel
theorem dX2_renew_11 : decode cX2_renew 11 = .ok (.goto 4, 3) := by decide +kernel
theorem dX2_renew_14 : decode cX2_renew 14 = .ok (.iconst 0, 1) := by decide +kernel
theorem dX2_renew_15 : decode cX2_renew 15 = .ok (.istore_n 3, 1) := by decide +kernel
theorem dX2_renew_16 : decode cX2_renew 16 = .ok (.aload_n 0, 1) := by decide +kernel
theorem dX2_renew_17 : decode cX2_renew 17 = .ok (.getfield 30, 3) := by decide +kernel
theorem dX2_renew_20 : decode cX2_renew 20 = .ok (.aload_n 0, 1) := by decide +kernel
theorem dX2_renew_21 : decode cX2_renew 21 = .ok (.getfield 9, 3) := by decide +kernel
theorem dX2_renew_24 : decode cX2_renew 24 = .ok (.iload_n 1, 1) := by decide +kernel
theorem dX2_renew_25 : decode cX2_renew 25 = .ok (.iaload, 1) := by decide +kernel
theorem dX2_renew_26 : decode cX2_renew 26 = .ok (.dup2, 1) := by decide +kernel
theorem dX2_renew_27 : decode cX2_renew 27 = .ok (.iaload, 1) := by decide +kernel
theorem dX2_renew_28 : decode cX2_renew 28 = .ok (.aload_n 0, 1) := by decide +kernel
theorem dX2_renew_29 : decode cX2_renew 29 = .ok (.getfield 40, 3) := by decide +kernel
theorem dX2_renew_32 : decode cX2_renew 32 = .ok (.aload_n 0, 1) := by decide +kernel
theorem dX2_renew_33 : decode cX2_renew 33 = .ok (.getfield 21, 3) := by decide +kernel
theorem dX2_renew_36 : decode cX2_renew 36 = .ok (.iload_n 1, 1) := by decide +kernel
theorem dX2_renew_37 : decode cX2_renew 37 = .ok (.iaload, 1) := by decide +kernel
theorem dX2_renew_38 : decode cX2_renew 38 = .ok (.isub, 1) := by decide +kernel
theorem dX2_renew_39 : decode cX2_renew 39 = .ok (.iadd, 1) := by decide +kernel
theorem dX2_renew_40 : decode cX2_renew 40 = .ok (.iastore, 1) := by decide +kernel
theorem dX2_renew_41 : decode cX2_renew 41 = .ok (.iload_n 3, 1) := by decide +kernel
theorem dX2_renew_42 : decode cX2_renew 42 = .ok (.ifCond .eq 18, 3) := by decide +kernel
theorem dX2_renew_45 : decode cX2_renew 45 = .ok (.aload_n 0, 1) := by decide +kernel
theorem dX2_renew_46 : decode cX2_renew 46 = .ok (.getfield 33, 3) := by decide +kernel
theorem dX2_renew_49 : decode cX2_renew 49 = .ok (.aload_n 0, 1) := by decide +kernel
theorem dX2_renew_50 : decode cX2_renew 50 = .ok (.getfield 9, 3) := by decide +kernel
theorem dX2_renew_53 : decode cX2_renew 53 = .ok (.iload_n 1, 1) := by decide +kernel
theorem dX2_renew_54 : decode cX2_renew 54 = .ok (.iaload, 1) := by decide +kernel
theorem dX2_renew_55 : decode cX2_renew 55 = .ok (.dup2, 1) := by decide +kernel
theorem dX2_renew_56 : decode cX2_renew 56 = .ok (.iaload, 1) := by decide +kernel
theorem dX2_renew_57 : decode cX2_renew 57 = .ok (.iconst 1, 1) := by decide +kernel
theorem dX2_renew_58 : decode cX2_renew 58 = .ok (.iadd, 1) := by decide +kernel
theorem dX2_renew_59 : decode cX2_renew 59 = .ok (.iastore, 1) := by decide +kernel
theorem dX2_renew_60 : decode cX2_renew 60 = .ok (.aload_n 0, 1) := by decide +kernel
theorem dX2_renew_61 : decode cX2_renew 61 = .ok (.getfield 18, 3) := by decide +kernel
theorem dX2_renew_64 : decode cX2_renew 64 = .ok (.iload_n 1, 1) := by decide +kernel
theorem dX2_renew_65 : decode cX2_renew 65 = .ok (.iload_n 2, 1) := by decide +kernel
theorem dX2_renew_66 : decode cX2_renew 66 = .ok (.iastore, 1) := by decide +kernel
theorem dX2_renew_67 : decode cX2_renew 67 = .ok (.aload_n 0, 1) := by decide +kernel
theorem dX2_renew_68 : decode cX2_renew 68 = .ok (.getfield 21, 3) := by decide +kernel
theorem dX2_renew_71 : decode cX2_renew 71 = .ok (.iload_n 1, 1) := by decide +kernel
theorem dX2_renew_72 : decode cX2_renew 72 = .ok (.aload_n 0, 1) := by decide +kernel
theorem dX2_renew_73 : decode cX2_renew 73 = .ok (.getfield 40, 3) := by decide +kernel
theorem dX2_renew_76 : decode cX2_renew 76 = .ok (.iastore, 1) := by decide +kernel
theorem dX2_renew_77 : decode cX2_renew 77 = .ok (.iload_n 3, 1) := by decide +kernel
theorem dX2_renew_78 : decode cX2_renew 78 = .ok (.ireturn, 1) := by decide +kernel
theorem dX2_rateOf_0 : decode cX2_rateOf 0 = .ok (.iconst 0, 1) := by decide +kernel
theorem dX2_rateOf_1 : decode cX2_rateOf 1 = .ok (.aload_n 0, 1) := by decide +kernel
theorem dX2_rateOf_2 : decode cX2_rateOf 2 = .ok (.getfield 30, 3) := by decide +kernel
theorem dX2_rateOf_5 : decode cX2_rateOf 5 = .ok (.iload_n 1, 1) := by decide +kernel
theorem dX2_rateOf_6 : decode cX2_rateOf 6 = .ok (.iaload, 1) := by decide +kernel
theorem dX2_rateOf_7 : decode cX2_rateOf 7 = .ok (.iconst 1, 1) := by decide +kernel
theorem dX2_rateOf_8 : decode cX2_rateOf 8 = .ok (.iadd, 1) := by decide +kernel
theorem dX2_rateOf_9 : decode cX2_rateOf 9 = .ok (.aload_n 0, 1) := by decide +kernel
theorem dX2_rateOf_10 : decode cX2_rateOf 10 = .ok (.getfield 33, 3) := by decide +kernel
theorem dX2_rateOf_13 : decode cX2_rateOf 13 = .ok (.iload_n 1, 1) := by decide +kernel
theorem dX2_rateOf_14 : decode cX2_rateOf 14 = .ok (.iaload, 1) := by decide +kernel
theorem dX2_rateOf_15 : decode cX2_rateOf 15 = .ok (.isub, 1) := by decide +kernel
theorem dX2_rateOf_16 : decode cX2_rateOf 16 = .ok (.invokestatic 43, 3) := by decide +kernel
theorem dX2_rateOf_19 : decode cX2_rateOf 19 = .ok (.i2l, 1) := by decide +kernel
theorem dX2_rateOf_20 : decode cX2_rateOf 20 = .ok (.lstore_n 2, 1) := by decide +kernel
theorem dX2_rateOf_21 : decode cX2_rateOf 21 = .ok (.ldc2_w 49, 3) := by decide +kernel
theorem dX2_rateOf_24 : decode cX2_rateOf 24 = .ok (.lload_n 2, 1) := by decide +kernel
theorem dX2_rateOf_25 : decode cX2_rateOf 25 = .ok (.lmul, 1) := by decide +kernel
theorem dX2_rateOf_26 : decode cX2_rateOf 26 = .ok (.aload_n 0, 1) := by decide +kernel
theorem dX2_rateOf_27 : decode cX2_rateOf 27 = .ok (.getfield 30, 3) := by decide +kernel
theorem dX2_rateOf_30 : decode cX2_rateOf 30 = .ok (.iload_n 1, 1) := by decide +kernel
theorem dX2_rateOf_31 : decode cX2_rateOf 31 = .ok (.iaload, 1) := by decide +kernel
theorem dX2_rateOf_32 : decode cX2_rateOf 32 = .ok (.iconst 2, 1) := by decide +kernel
theorem dX2_rateOf_33 : decode cX2_rateOf 33 = .ok (.iadd, 1) := by decide +kernel
theorem dX2_rateOf_34 : decode cX2_rateOf 34 = .ok (.invokestatic 51, 3) := by decide +kernel
theorem dX2_rateOf_37 : decode cX2_rateOf 37 = .ok (.ireturn, 1) := by decide +kernel
theorem dX2_chanceOf_0 : decode cX2_chanceOf 0 = .ok (.aload_n 0, 1) := by decide +kernel
theorem dX2_chanceOf_1 : decode cX2_chanceOf 1 = .ok (.aload_n 0, 1) := by decide +kernel
theorem dX2_chanceOf_2 : decode cX2_chanceOf 2 = .ok (.getfield 9, 3) := by decide +kernel
theorem dX2_chanceOf_5 : decode cX2_chanceOf 5 = .ok (.iload_n 1, 1) := by decide +kernel
theorem dX2_chanceOf_6 : decode cX2_chanceOf 6 = .ok (.iaload, 1) := by decide +kernel
theorem dX2_chanceOf_7 : decode cX2_chanceOf 7 = .ok (.invokevirtual 55, 3) := by decide +kernel
theorem dX2_chanceOf_10 : decode cX2_chanceOf 10 = .ok (.i2l, 1) := by decide +kernel
theorem dX2_chanceOf_11 : decode cX2_chanceOf 11 = .ok (.lstore_n 2, 1) := by decide +kernel
theorem dX2_chanceOf_12 : decode cX2_chanceOf 12 = .ok (.ldc2_w 49, 3) := by decide +kernel
theorem dX2_chanceOf_15 : decode cX2_chanceOf 15 = .ok (.lstore 4, 2) := by decide +kernel
theorem dX2_chanceOf_17 : decode cX2_chanceOf 17 = .ok (.aload_n 0, 1) := by decide +kernel
theorem dX2_chanceOf_18 : decode cX2_chanceOf 18 = .ok (.getfield 21, 3) := by decide +kernel
theorem dX2_chanceOf_21 : decode cX2_chanceOf 21 = .ok (.iload_n 1, 1) := by decide +kernel
theorem dX2_chanceOf_22 : decode cX2_chanceOf 22 = .ok (.iaload, 1) := by decide +kernel
theorem dX2_chanceOf_23 : decode cX2_chanceOf 23 = .ok (.istore 6, 2) := by decide +kernel
theorem dX2_chanceOf_25 : decode cX2_chanceOf 25 = .ok (.iload 6, 2) := by decide +kernel
theorem dX2_chanceOf_27 : decode cX2_chanceOf 27 = .ok (.aload_n 0, 1) := by decide +kernel
theorem dX2_chanceOf_28 : decode cX2_chanceOf 28 = .ok (.getfield 40, 3) := by decide +kernel
theorem dX2_chanceOf_31 : decode cX2_chanceOf 31 = .ok (.if_icmp .ge 19, 3) := by decide +kernel
theorem dX2_chanceOf_34 : decode cX2_chanceOf 34 = .ok (.lload 4, 2) := by decide +kernel
theorem dX2_chanceOf_36 : decode cX2_chanceOf 36 = .ok (.lload_n 2, 1) := by decide +kernel
theorem dX2_chanceOf_37 : decode cX2_chanceOf 37 = .ok (.lmul, 1) := by decide +kernel
theorem dX2_chanceOf_38 : decode cX2_chanceOf 38 = .ok (.ldc2_w 49, 3) := by decide +kernel
theorem dX2_chanceOf_41 : decode cX2_chanceOf 41 = .ok (.ldiv, 1) := by decide +kernel
theorem dX2_chanceOf_42 : decode cX2_chanceOf 42 = .ok (.lstore 4, 2) := by decide +kernel
theorem dX2_chanceOf_44 : decode cX2_chanceOf 44 = .ok (.iinc 6 1, 3) := by decide +kernel
theorem dX2_chanceOf_47 : decode cX2_chanceOf 47 = .ok (.goto (-22), 3) := by decide +kernel
theorem dX2_chanceOf_50 : decode cX2_chanceOf 50 = .ok (.lload 4, 2) := by decide +kernel
theorem dX2_chanceOf_52 : decode cX2_chanceOf 52 = .ok (.l2i, 1) := by decide +kernel
theorem dX2_chanceOf_53 : decode cX2_chanceOf 53 = .ok (.ireturn, 1) := by decide +kernel
theorem dX2_doubtOf_0 : decode cX2_doubtOf 0 = .ok (.iconst 0, 1) := by decide +kernel
theorem dX2_doubtOf_1 : decode cX2_doubtOf 1 = .ok (.istore_n 2, 1) := by decide +kernel
theorem dX2_doubtOf_2 : decode cX2_doubtOf 2 = .ok (.iconst 0, 1) := by decide +kernel
theorem dX2_doubtOf_3 : decode cX2_doubtOf 3 = .ok (.istore_n 3, 1) := by decide +kernel
theorem dX2_doubtOf_4 : decode cX2_doubtOf 4 = .ok (.iload_n 3, 1) := by decide +kernel
theorem dX2_doubtOf_5 : decode cX2_doubtOf 5 = .ok (.aload_n 0, 1) := by decide +kernel
theorem dX2_doubtOf_6 : decode cX2_doubtOf 6 = .ok (.getfield 36, 3) := by decide +kernel
theorem dX2_doubtOf_9 : decode cX2_doubtOf 9 = .ok (.if_icmp .ge 30, 3) := by decide +kernel
theorem dX2_doubtOf_12 : decode cX2_doubtOf 12 = .ok (.aload_n 0, 1) := by decide +kernel
theorem dX2_doubtOf_13 : decode cX2_doubtOf 13 = .ok (.getfield 15, 3) := by decide +kernel
theorem dX2_doubtOf_16 : decode cX2_doubtOf 16 = .ok (.iload_n 3, 1) := by decide +kernel
theorem dX2_doubtOf_17 : decode cX2_doubtOf 17 = .ok (.iaload, 1) := by decide +kernel
theorem dX2_doubtOf_18 : decode cX2_doubtOf 18 = .ok (.iload_n 1, 1) := by decide +kernel
theorem dX2_doubtOf_19 : decode cX2_doubtOf 19 = .ok (.if_icmp .ne 14, 3) := by decide +kernel
theorem dX2_doubtOf_22 : decode cX2_doubtOf 22 = .ok (.iload_n 2, 1) := by decide +kernel
theorem dX2_doubtOf_23 : decode cX2_doubtOf 23 = .ok (.ldc 59, 2) := by decide +kernel
theorem dX2_doubtOf_25 : decode cX2_doubtOf 25 = .ok (.aload_n 0, 1) := by decide +kernel
theorem dX2_doubtOf_26 : decode cX2_doubtOf 26 = .ok (.iload_n 3, 1) := by decide +kernel
theorem dX2_doubtOf_27 : decode cX2_doubtOf 27 = .ok (.invokevirtual 60, 3) := by decide +kernel
theorem dX2_doubtOf_30 : decode cX2_doubtOf 30 = .ok (.isub, 1) := by decide +kernel
theorem dX2_doubtOf_31 : decode cX2_doubtOf 31 = .ok (.iadd, 1) := by decide +kernel
theorem dX2_doubtOf_32 : decode cX2_doubtOf 32 = .ok (.istore_n 2, 1) := by decide +kernel
theorem dX2_doubtOf_33 : decode cX2_doubtOf 33 = .ok (.iinc 3 1, 3) := by decide +kernel
theorem dX2_doubtOf_36 : decode cX2_doubtOf 36 = .ok (.goto (-32), 3) := by decide +kernel
theorem dX2_doubtOf_39 : decode cX2_doubtOf 39 = .ok (.iload_n 2, 1) := by decide +kernel
theorem dX2_doubtOf_40 : decode cX2_doubtOf 40 = .ok (.ireturn, 1) := by decide +kernel
theorem dX2_countOf_0 : decode cX2_countOf 0 = .ok (.iconst 0, 1) := by decide +kernel
theorem dX2_countOf_1 : decode cX2_countOf 1 = .ok (.istore_n 2, 1) := by decide +kernel
theorem dX2_countOf_2 : decode cX2_countOf 2 = .ok (.iconst 0, 1) := by decide +kernel
theorem dX2_countOf_3 : decode cX2_countOf 3 = .ok (.istore_n 3, 1) := by decide +kernel
theorem dX2_countOf_4 : decode cX2_countOf 4 = .ok (.iload_n 3, 1) := by decide +kernel
theorem dX2_countOf_5 : decode cX2_countOf 5 = .ok (.aload_n 0, 1) := by decide +kernel
theorem dX2_countOf_6 : decode cX2_countOf 6 = .ok (.getfield 36, 3) := by decide +kernel
theorem dX2_countOf_9 : decode cX2_countOf 9 = .ok (.if_icmp .ge 22, 3) := by decide +kernel
theorem dX2_countOf_12 : decode cX2_countOf 12 = .ok (.aload_n 0, 1) := by decide +kernel
theorem dX2_countOf_13 : decode cX2_countOf 13 = .ok (.getfield 15, 3) := by decide +kernel
theorem dX2_countOf_16 : decode cX2_countOf 16 = .ok (.iload_n 3, 1) := by decide +kernel
theorem dX2_countOf_17 : decode cX2_countOf 17 = .ok (.iaload, 1) := by decide +kernel
theorem dX2_countOf_18 : decode cX2_countOf 18 = .ok (.iload_n 1, 1) := by decide +kernel
theorem dX2_countOf_19 : decode cX2_countOf 19 = .ok (.if_icmp .ne 6, 3) := by decide +kernel
theorem dX2_countOf_22 : decode cX2_countOf 22 = .ok (.iinc 2 1, 3) := by decide +kernel
theorem dX2_countOf_25 : decode cX2_countOf 25 = .ok (.iinc 3 1, 3) := by decide +kernel
theorem dX2_countOf_28 : decode cX2_countOf 28 = .ok (.goto (-24), 3) := by decide +kernel
theorem dX2_countOf_31 : decode cX2_countOf 31 = .ok (.iload_n 2, 1) := by decide +kernel
theorem dX2_countOf_32 : decode cX2_countOf 32 = .ok (.ireturn, 1) := by decide +kernel
theorem dX3_init_0 : decode cX3_init 0 = .ok (.aload_n 0, 1) := by decide +kernel
theorem dX3_init_1 : decode cX3_init 1 = .ok (.invokespecial 3, 3) := by decide +kernel
theorem dX3_init_4 : decode cX3_init 4 = .ok (.aload_n 0, 1) := by decide +kernel
theorem dX3_init_5 : decode cX3_init 5 = .ok (.bipush 100, 2) := by decide +kernel
theorem dX3_init_7 : decode cX3_init 7 = .ok (.newarray .int, 2) := by decide +kernel
theorem dX3_init_9 : decode cX3_init 9 = .ok (.putfield 9, 3) := by decide +kernel
theorem dX3_init_12 : decode cX3_init 12 = .ok (.aload_n 0, 1) := by decide +kernel
theorem dX3_init_13 : decode cX3_init 13 = .ok (.bipush 100, 2) := by decide +kernel
theorem dX3_init_15 : decode cX3_init 15 = .ok (.newarray .int, 2) := by decide +kernel
theorem dX3_init_17 : decode cX3_init 17 = .ok (.putfield 15, 3) := by decide +kernel
theorem dX3_init_20 : decode cX3_init 20 = .ok (.aload_n 0, 1) := by decide +kernel
theorem dX3_init_21 : decode cX3_init 21 = .ok (.bipush 100, 2) := by decide +kernel
theorem dX3_init_23 : decode cX3_init 23 = .ok (.newarray .int, 2) := by decide +kernel
theorem dX3_init_25 : decode cX3_init 25 = .ok (.putfield 18, 3) := by decide +kernel
theorem dX3_init_28 : decode cX3_init 28 = .ok (.aload_n 0, 1) := by decide +kernel
theorem dX3_init_29 : decode cX3_init 29 = .ok (.bipush 100, 2) := by decide +kernel
theorem dX3_init_31 : decode cX3_init 31 = .ok (.newarray .int, 2) := by decide +kernel
theorem dX3_init_33 : decode cX3_init 33 = .ok (.putfield 21, 3) := by decide +kernel
theorem dX3_init_36 : decode cX3_init 36 = .ok (.aload_n 0, 1) := by decide +kernel
theorem dX3_init_37 : decode cX3_init 37 = .ok (.bipush 20, 2) := by decide +kernel
theorem dX3_init_39 : decode cX3_init 39 = .ok (.newarray .int, 2) := by decide +kernel
theorem dX3_init_41 : decode cX3_init 41 = .ok (.putfield 24, 3) := by decide +kernel
theorem dX3_init_44 : decode cX3_init 44 = .ok (.aload_n 0, 1) := by decide +kernel
theorem dX3_init_45 : decode cX3_init 45 = .ok (.bipush 20, 2) := by decide +kernel
theorem dX3_init_47 : decode cX3_init 47 = .ok (.newarray .int, 2) := by decide +kernel
theorem dX3_init_49 : decode cX3_init 49 = .ok (.putfield 27, 3) := by decide +kernel
theorem dX3_init_52 : decode cX3_init 52 = .ok (.return_, 1) := by decide +kernel
theorem dX3_has_0 : decode cX3_has 0 = .ok (.iload_n 1, 1) := by decide +kernel
theorem dX3_has_1 : decode cX3_has 1 = .ok (.ifCond .lt 15, 3) := by decide +kernel
theorem dX3_has_4 : decode cX3_has 4 = .ok (.iload_n 1, 1) := by decide +kernel
theorem dX3_has_5 : decode cX3_has 5 = .ok (.aload_n 0, 1) := by decide +kernel
theorem dX3_has_6 : decode cX3_has 6 = .ok (.getfield 30, 3) := by decide +kernel
theorem dX3_has_9 : decode cX3_has 9 = .ok (.if_icmp .ge 7, 3) := by decide +kernel
theorem dX3_has_12 : decode cX3_has 12 = .ok (.iconst 1, 1) := by decide +kernel
theorem dX3_has_13 : decode cX3_has 13 = .ok (.goto 4, 3) := by decide +kernel
theorem dX3_has_16 : decode cX3_has 16 = .ok (.iconst 0, 1) := by decide +kernel
theorem dX3_has_17 : decode cX3_has 17 = .ok (.ireturn, 1) := by decide +kernel
theorem dX3_add_0 : decode cX3_add 0 = .ok (.aload_n 0, 1) := by decide +kernel
theorem dX3_add_1 : decode cX3_add 1 = .ok (.getfield 30, 3) := by decide +kernel
theorem dX3_add_4 : decode cX3_add 4 = .ok (.istore 4, 2) := by decide +kernel
theorem dX3_add_6 : decode cX3_add 6 = .ok (.aload_n 0, 1) := by decide +kernel
theorem dX3_add_7 : decode cX3_add 7 = .ok (.getfield 9, 3) := by decide +kernel
theorem dX3_add_10 : decode cX3_add 10 = .ok (.iload 4, 2) := by decide +kernel
theorem dX3_add_12 : decode cX3_add 12 = .ok (.iload_n 1, 1) := by decide +kernel
theorem dX3_add_13 : decode cX3_add 13 = .ok (.iastore, 1) := by decide +kernel
theorem dX3_add_14 : decode cX3_add 14 = .ok (.aload_n 0, 1) := by decide +kernel
theorem dX3_add_15 : decode cX3_add 15 = .ok (.getfield 15, 3) := by decide +kernel
theorem dX3_add_18 : decode cX3_add 18 = .ok (.iload 4, 2) := by decide +kernel
theorem dX3_add_20 : decode cX3_add 20 = .ok (.iload_n 2, 1) := by decide +kernel
theorem dX3_add_21 : decode cX3_add 21 = .ok (.iastore, 1) := by decide +kernel
theorem dX3_add_22 : decode cX3_add 22 = .ok (.aload_n 0, 1) := by decide +kernel
theorem dX3_add_23 : decode cX3_add 23 = .ok (.getfield 18, 3) := by decide +kernel
theorem dX3_add_26 : decode cX3_add 26 = .ok (.iload 4, 2) := by decide +kernel
theorem dX3_add_28 : decode cX3_add 28 = .ok (.iload_n 3, 1) := by decide +kernel
theorem dX3_add_29 : decode cX3_add 29 = .ok (.iastore, 1) := by decide +kernel
theorem dX3_add_30 : decode cX3_add 30 = .ok (.aload_n 0, 1) := by decide +kernel
theorem dX3_add_31 : decode cX3_add 31 = .ok (.getfield 21, 3) := by decide +kernel
theorem dX3_add_34 : decode cX3_add 34 = .ok (.iload 4, 2) := by decide +kernel
theorem dX3_add_36 : decode cX3_add 36 = .ok (.iconst 0, 1) := by decide +kernel
theorem dX3_add_37 : decode cX3_add 37 = .ok (.iastore, 1) := by decide +kernel
theorem dX3_add_38 : decode cX3_add 38 = .ok (.aload_n 0, 1) := by decide +kernel
theorem dX3_add_39 : decode cX3_add 39 = .ok (.dup, 1) := by decide +kernel
theorem dX3_add_40 : decode cX3_add 40 = .ok (.getfield 30, 3) := by decide +kernel
theorem dX3_add_43 : decode cX3_add 43 = .ok (.iconst 1, 1) := by decide +kernel
theorem dX3_add_44 : decode cX3_add 44 = .ok (.iadd, 1) := by decide +kernel
theorem dX3_add_45 : decode cX3_add 45 = .ok (.putfield 30, 3) := by decide +kernel
theorem dX3_add_48 : decode cX3_add 48 = .ok (.aload_n 0, 1) := by decide +kernel
theorem dX3_add_49 : decode cX3_add 49 = .ok (.dup, 1) := by decide +kernel
theorem dX3_add_50 : decode cX3_add 50 = .ok (.getfield 34, 3) := by decide +kernel
theorem dX3_add_53 : decode cX3_add 53 = .ok (.iconst 1, 1) := by decide +kernel
theorem dX3_add_54 : decode cX3_add 54 = .ok (.iadd, 1) := by decide +kernel
theorem dX3_add_55 : decode cX3_add 55 = .ok (.putfield 34, 3) := by decide +kernel
theorem dX3_add_58 : decode cX3_add 58 = .ok (.iload 4, 2) := by decide +kernel
theorem dX3_add_60 : decode cX3_add 60 = .ok (.ireturn, 1) := by decide +kernel
theorem dX3_isOpenOn_0 : decode cX3_isOpenOn 0 = .ok (.aload_n 0, 1) := by decide +kernel
theorem dX3_isOpenOn_1 : decode cX3_isOpenOn 1 = .ok (.getfield 15, 3) := by decide +kernel
theorem dX3_isOpenOn_4 : decode cX3_isOpenOn 4 = .ok (.iload_n 1, 1) := by decide +kernel
theorem dX3_isOpenOn_5 : decode cX3_isOpenOn 5 = .ok (.iaload, 1) := by decide +kernel
theorem dX3_isOpenOn_6 : decode cX3_isOpenOn 6 = .ok (.iload_n 2, 1) := by decide +kernel
theorem dX3_isOpenOn_7 : decode cX3_isOpenOn 7 = .ok (.if_icmp .ne 16, 3) := by decide +kernel
theorem dX3_isOpenOn_10 : decode cX3_isOpenOn 10 = .ok (.aload_n 0, 1) := by decide +kernel
theorem dX3_isOpenOn_11 : decode cX3_isOpenOn 11 = .ok (.getfield 21, 3) := by decide +kernel
theorem dX3_isOpenOn_14 : decode cX3_isOpenOn 14 = .ok (.iload_n 1, 1) := by decide +kernel
theorem dX3_isOpenOn_15 : decode cX3_isOpenOn 15 = .ok (.iaload, 1) := by decide +kernel
theorem dX3_isOpenOn_16 : decode cX3_isOpenOn 16 = .ok (.ifCond .ne 7, 3) := by decide +kernel
theorem dX3_isOpenOn_19 : decode cX3_isOpenOn 19 = .ok (.iconst 1, 1) := by decide +kernel
theorem dX3_isOpenOn_20 : decode cX3_isOpenOn 20 = .ok (.goto 4, 3) := by decide +kernel
theorem dX3_isOpenOn_23 : decode cX3_isOpenOn 23 = .ok (.iconst 0, 1) := by decide +kernel
theorem dX3_isOpenOn_24 : decode cX3_isOpenOn 24 = .ok (.ireturn, 1) := by decide +kernel
theorem dX3_settle_0 : decode cX3_settle 0 = .ok (.iconst 0, 1) := by decide +kernel
theorem dX3_settle_1 : decode cX3_settle 1 = .ok (.istore_n 3, 1) := by decide +kernel
theorem dX3_settle_2 : decode cX3_settle 2 = .ok (.iload_n 3, 1) := by decide +kernel
theorem dX3_settle_3 : decode cX3_settle 3 = .ok (.aload_n 0, 1) := by decide +kernel
theorem dX3_settle_4 : decode cX3_settle 4 = .ok (.getfield 30, 3) := by decide +kernel
theorem dX3_settle_7 : decode cX3_settle 7 = .ok (.if_icmp .ge 38, 3) := by decide +kernel
theorem dX3_settle_10 : decode cX3_settle 10 = .ok (.aload_n 0, 1) := by decide +kernel
theorem dX3_settle_11 : decode cX3_settle 11 = .ok (.iload_n 3, 1) := by decide +kernel
theorem dX3_settle_12 : decode cX3_settle 12 = .ok (.iload_n 1, 1) := by decide +kernel
theorem dX3_settle_13 : decode cX3_settle 13 = .ok (.invokevirtual 37, 3) := by decide +kernel
theorem dX3_settle_16 : decode cX3_settle 16 = .ok (.ifCond .eq 23, 3) := by decide +kernel
theorem dX3_settle_19 : decode cX3_settle 19 = .ok (.aload_n 0, 1) := by decide +kernel
theorem dX3_settle_20 : decode cX3_settle 20 = .ok (.iload_n 3, 1) := by decide +kernel
theorem dX3_settle_21 : decode cX3_settle 21 = .ok (.aload_n 0, 1) := by decide +kernel
theorem dX3_settle_22 : decode cX3_settle 22 = .ok (.getfield 18, 3) := by decide +kernel
theorem dX3_settle_25 : decode cX3_settle 25 = .ok (.iload_n 3, 1) := by decide +kernel
theorem dX3_settle_26 : decode cX3_settle 26 = .ok (.iaload, 1) := by decide +kernel
theorem dX3_settle_27 : decode cX3_settle 27 = .ok (.iload_n 2, 1) := by decide +kernel
theorem dX3_settle_28 : decode cX3_settle 28 = .ok (.if_icmp .ne 7, 3) := by decide +kernel
theorem dX3_settle_31 : decode cX3_settle 31 = .ok (.iconst 1, 1) := by decide +kernel
theorem dX3_settle_32 : decode cX3_settle 32 = .ok (.goto 4, 3) := by decide +kernel
theorem dX3_settle_35 : decode cX3_settle 35 = .ok (.iconst 0, 1) := by decide +kernel
theorem dX3_settle_36 : decode cX3_settle 36 = .ok (.invokevirtual 41, 3) := by decide +kernel
theorem dX3_settle_39 : decode cX3_settle 39 = .ok (.iinc 3 1, 3) := by decide +kernel
theorem dX3_settle_42 : decode cX3_settle 42 = .ok (.goto (-40), 3) := by decide +kernel
theorem dX3_settle_45 : decode cX3_settle 45 = .ok (.return_, 1) := by decide +kernel
theorem dX3_close_0 : decode cX3_close 0 = .ok (.iload_n 2, 1) := by decide +kernel
theorem dX3_close_1 : decode cX3_close 1 = .ok (.ifCond .eq 10, 3) := by decide +kernel
theorem dX3_close_4 : decode cX3_close 4 = .ok (.aload_n 0, 1) := by decide +kernel
theorem dX3_close_5 : decode cX3_close 5 = .ok (.getfield 24, 3) := by decide +kernel
theorem dX3_close_8 : decode cX3_close 8 = .ok (.goto 7, 3) := by decide +kernel
theorem dX3_close_11 : decode cX3_close 11 = .ok (.aload_n 0, 1) := by decide +kernel
theorem dX3_close_12 : decode cX3_close 12 = .ok (.getfield 27, 3) := by decide +kernel
theorem dX3_close_15 : decode cX3_close 15 = .ok (.astore_n 3, 1) := by decide +kernel
theorem dX3_close_16 : decode cX3_close 16 = .ok (.aload_n 3, 1) := by decide +kernel
theorem dX3_close_17 : decode cX3_close 17 = .ok (.aload_n 0, 1) := by decide +kernel
theorem dX3_close_18 : decode cX3_close 18 = .ok (.getfield 9, 3) := by decide +kernel
theorem dX3_close_21 : decode cX3_close 21 = .ok (.iload_n 1, 1) := by decide +kernel
theorem dX3_close_22 : decode cX3_close 22 = .ok (.iaload, 1) := by decide +kernel
theorem dX3_close_23 : decode cX3_close 23 = .ok (.dup2, 1) := by decide +kernel
theorem dX3_close_24 : decode cX3_close 24 = .ok (.iaload, 1) := by decide +kernel
theorem dX3_close_25 : decode cX3_close 25 = .ok (.iconst 1, 1) := by decide +kernel
theorem dX3_close_26 : decode cX3_close 26 = .ok (.iadd, 1) := by decide +kernel
theorem dX3_close_27 : decode cX3_close 27 = .ok (.iastore, 1) := by decide +kernel
theorem dX3_close_28 : decode cX3_close 28 = .ok (.aload_n 0, 1) := by decide +kernel
theorem dX3_close_29 : decode cX3_close 29 = .ok (.getfield 21, 3) := by decide +kernel
theorem dX3_close_32 : decode cX3_close 32 = .ok (.iload_n 1, 1) := by decide +kernel
theorem dX3_close_33 : decode cX3_close 33 = .ok (.iload_n 2, 1) := by decide +kernel
theorem dX3_close_34 : decode cX3_close 34 = .ok (.ifCond .eq 7, 3) := by decide +kernel
theorem dX3_close_37 : decode cX3_close 37 = .ok (.iconst 1, 1) := by decide +kernel
theorem dX3_close_38 : decode cX3_close 38 = .ok (.goto 4, 3) := by decide +kernel
theorem dX3_close_41 : decode cX3_close 41 = .ok (.iconst 2, 1) := by decide +kernel
theorem dX3_close_42 : decode cX3_close 42 = .ok (.iastore, 1) := by decide +kernel
theorem dX3_close_43 : decode cX3_close 43 = .ok (.aload_n 0, 1) := by decide +kernel
theorem dX3_close_44 : decode cX3_close 44 = .ok (.dup, 1) := by decide +kernel
theorem dX3_close_45 : decode cX3_close 45 = .ok (.getfield 34, 3) := by decide +kernel
theorem dX3_close_48 : decode cX3_close 48 = .ok (.iconst 1, 1) := by decide +kernel
theorem dX3_close_49 : decode cX3_close 49 = .ok (.isub, 1) := by decide +kernel
theorem dX3_close_50 : decode cX3_close 50 = .ok (.putfield 34, 3) := by decide +kernel
theorem dX3_close_53 : decode cX3_close 53 = .ok (.return_, 1) := by decide +kernel
theorem dX3_weightOf_0 : decode cX3_weightOf 0 = .ok (.sipush 1000, 3) := by decide +kernel
theorem dX3_weightOf_3 : decode cX3_weightOf 3 = .ok (.aload_n 0, 1) := by decide +kernel
theorem dX3_weightOf_4 : decode cX3_weightOf 4 = .ok (.getfield 24, 3) := by decide +kernel
theorem dX3_weightOf_7 : decode cX3_weightOf 7 = .ok (.iload_n 1, 1) := by decide +kernel
theorem dX3_weightOf_8 : decode cX3_weightOf 8 = .ok (.iaload, 1) := by decide +kernel
theorem dX3_weightOf_9 : decode cX3_weightOf 9 = .ok (.iconst 1, 1) := by decide +kernel
theorem dX3_weightOf_10 : decode cX3_weightOf 10 = .ok (.iadd, 1) := by decide +kernel
theorem dX3_weightOf_11 : decode cX3_weightOf 11 = .ok (.imul, 1) := by decide +kernel
theorem dX3_weightOf_12 : decode cX3_weightOf 12 = .ok (.i2l, 1) := by decide +kernel
theorem dX3_weightOf_13 : decode cX3_weightOf 13 = .ok (.aload_n 0, 1) := by decide +kernel
theorem dX3_weightOf_14 : decode cX3_weightOf 14 = .ok (.getfield 24, 3) := by decide +kernel
theorem dX3_weightOf_17 : decode cX3_weightOf 17 = .ok (.iload_n 1, 1) := by decide +kernel
theorem dX3_weightOf_18 : decode cX3_weightOf 18 = .ok (.iaload, 1) := by decide +kernel
theorem dX3_weightOf_19 : decode cX3_weightOf 19 = .ok (.aload_n 0, 1) := by decide +kernel
theorem dX3_weightOf_20 : decode cX3_weightOf 20 = .ok (.getfield 27, 3) := by decide +kernel
theorem dX3_weightOf_23 : decode cX3_weightOf 23 = .ok (.iload_n 1, 1) := by decide +kernel
theorem dX3_weightOf_24 : decode cX3_weightOf 24 = .ok (.iaload, 1) := by decide +kernel
theorem dX3_weightOf_25 : decode cX3_weightOf 25 = .ok (.iadd, 1) := by decide +kernel
theorem dX3_weightOf_26 : decode cX3_weightOf 26 = .ok (.iconst 2, 1) := by decide +kernel
theorem dX3_weightOf_27 : decode cX3_weightOf 27 = .ok (.iadd, 1) := by decide +kernel
theorem dX3_weightOf_28 : decode cX3_weightOf 28 = .ok (.invokestatic 45, 3) := by decide +kernel
theorem dX3_weightOf_31 : decode cX3_weightOf 31 = .ok (.ireturn, 1) := by decide +kernel
theorem dX3_weightFor_0 : decode cX3_weightFor 0 = .ok (.iconst 0, 1) := by decide +kernel
theorem dX3_weightFor_1 : decode cX3_weightFor 1 = .ok (.istore_n 3, 1) := by decide +kernel
theorem dX3_weightFor_2 : decode cX3_weightFor 2 = .ok (.iconst 0, 1) := by decide +kernel
theorem dX3_weightFor_3 : decode cX3_weightFor 3 = .ok (.istore 4, 2) := by decide +kernel
theorem dX3_weightFor_5 : decode cX3_weightFor 5 = .ok (.iconst 0, 1) := by decide +kernel
theorem dX3_weightFor_6 : decode cX3_weightFor 6 = .ok (.istore 5, 2) := by decide +kernel
theorem dX3_weightFor_8 : decode cX3_weightFor 8 = .ok (.iload 5, 2) := by decide +kernel
theorem dX3_weightFor_10 : decode cX3_weightFor 10 = .ok (.aload_n 0, 1) := by decide +kernel
theorem dX3_weightFor_11 : decode cX3_weightFor 11 = .ok (.getfield 30, 3) := by decide +kernel
theorem dX3_weightFor_14 : decode cX3_weightFor 14 = .ok (.if_icmp .ge 81, 3) := by decide +kernel
theorem dX3_weightFor_17 : decode cX3_weightFor 17 = .ok (.iconst 1, 1) := by decide +kernel
theorem dX3_weightFor_18 : decode cX3_weightFor 18 = .ok (.aload_n 0, 1) := by decide +kernel
theorem dX3_weightFor_19 : decode cX3_weightFor 19 = .ok (.getfield 9, 3) := by decide +kernel
theorem dX3_weightFor_22 : decode cX3_weightFor 22 = .ok (.iload 5, 2) := by decide +kernel
theorem dX3_weightFor_24 : decode cX3_weightFor 24 = .ok (.iaload, 1) := by decide +kernel
theorem dX3_weightFor_25 : decode cX3_weightFor 25 = .ok (.ishl, 1) := by decide +kernel
theorem dX3_weightFor_26 : decode cX3_weightFor 26 = .ok (.istore 6, 2) := by decide +kernel
theorem dX3_weightFor_28 : decode cX3_weightFor 28 = .ok (.aload_n 0, 1) := by decide +kernel
theorem dX3_weightFor_29 : decode cX3_weightFor 29 = .ok (.iload 5, 2) := by decide +kernel
theorem dX3_weightFor_31 : decode cX3_weightFor 31 = .ok (.iload_n 1, 1) := by decide +kernel
theorem dX3_weightFor_32 : decode cX3_weightFor 32 = .ok (.invokevirtual 37, 3) := by decide +kernel
theorem dX3_weightFor_35 : decode cX3_weightFor 35 = .ok (.ifCond .eq 18, 3) := by decide +kernel
theorem dX3_weightFor_38 : decode cX3_weightFor 38 = .ok (.aload_n 0, 1) := by decide +kernel
theorem dX3_weightFor_39 : decode cX3_weightFor 39 = .ok (.getfield 18, 3) := by decide +kernel
theorem dX3_weightFor_42 : decode cX3_weightFor 42 = .ok (.iload 5, 2) := by decide +kernel
theorem dX3_weightFor_44 : decode cX3_weightFor 44 = .ok (.iaload, 1) := by decide +kernel
theorem dX3_weightFor_45 : decode cX3_weightFor 45 = .ok (.iload_n 2, 1) := by decide +kernel
theorem dX3_weightFor_46 : decode cX3_weightFor 46 = .ok (.if_icmp .ne 7, 3) := by decide +kernel
theorem dX3_weightFor_49 : decode cX3_weightFor 49 = .ok (.iconst 1, 1) := by decide +kernel
theorem dX3_weightFor_50 : decode cX3_weightFor 50 = .ok (.goto 4, 3) := by decide +kernel
theorem dX3_weightFor_53 : decode cX3_weightFor 53 = .ok (.iconst 0, 1) := by decide +kernel
theorem dX3_weightFor_54 : decode cX3_weightFor 54 = .ok (.istore 7, 2) := by decide +kernel
theorem dX3_weightFor_56 : decode cX3_weightFor 56 = .ok (.iload 7, 2) := by decide +kernel
theorem dX3_weightFor_58 : decode cX3_weightFor 58 = .ok (.ifCond .eq 31, 3) := by decide +kernel
theorem dX3_weightFor_61 : decode cX3_weightFor 61 = .ok (.iload_n 3, 1) := by decide +kernel
theorem dX3_weightFor_62 : decode cX3_weightFor 62 = .ok (.iload 6, 2) := by decide +kernel
theorem dX3_weightFor_64 : decode cX3_weightFor 64 = .ok (.iand, 1) := by decide +kernel
theorem dX3_weightFor_65 : decode cX3_weightFor 65 = .ok (.ifCond .ne 24, 3) := by decide +kernel
theorem dX3_weightFor_68 : decode cX3_weightFor 68 = .ok (.iload_n 3, 1) := by decide +kernel
theorem dX3_weightFor_69 : decode cX3_weightFor 69 = .ok (.iload 6, 2) := by decide +kernel
theorem dX3_weightFor_71 : decode cX3_weightFor 71 = .ok (.ior, 1) := by decide +kernel
theorem dX3_weightFor_72 : decode cX3_weightFor 72 = .ok (.istore_n 3, 1) := by decide +kernel
theorem dX3_weightFor_73 : decode cX3_weightFor 73 = .ok (.iload 4, 2) := by decide +kernel
theorem dX3_weightFor_75 : decode cX3_weightFor 75 = .ok (.aload_n 0, 1) := by decide +kernel
theorem dX3_weightFor_76 : decode cX3_weightFor 76 = .ok (.aload_n 0, 1) := by decide +kernel
theorem dX3_weightFor_77 : decode cX3_weightFor 77 = .ok (.getfield 9, 3) := by decide +kernel
theorem dX3_weightFor_80 : decode cX3_weightFor 80 = .ok (.iload 5, 2) := by decide +kernel
theorem dX3_weightFor_82 : decode cX3_weightFor 82 = .ok (.iaload, 1) := by decide +kernel
theorem dX3_weightFor_83 : decode cX3_weightFor 83 = .ok (.invokevirtual 49, 3) := by decide +kernel
theorem dX3_weightFor_86 : decode cX3_weightFor 86 = .ok (.iadd, 1) := by decide +kernel
theorem dX3_weightFor_87 : decode cX3_weightFor 87 = .ok (.istore 4, 2) := by decide +kernel
theorem dX3_weightFor_89 : decode cX3_weightFor 89 = .ok (.iinc 5 1, 3) := by decide +kernel
theorem dX3_weightFor_92 : decode cX3_weightFor 92 = .ok (.goto (-84), 3) := by decide +kernel
theorem dX3_weightFor_95 : decode cX3_weightFor 95 = .ok (.iload 4, 2) := by decide +kernel
theorem dX3_weightFor_97 : decode cX3_weightFor 97 = .ok (.ireturn, 1) := by decide +kernel
theorem dX3_differOn_0 : decode cX3_differOn 0 = .ok (.iconst (-1), 1) := by decide +kernel
theorem dX3_differOn_1 : decode cX3_differOn 1 = .ok (.istore_n 2, 1) := by decide +kernel
theorem dX3_differOn_2 : decode cX3_differOn 2 = .ok (.iconst 0, 1) := by decide +kernel
theorem dX3_differOn_3 : decode cX3_differOn 3 = .ok (.istore_n 3, 1) := by decide +kernel
theorem dX3_differOn_4 : decode cX3_differOn 4 = .ok (.iload_n 3, 1) := by decide +kernel
theorem dX3_differOn_5 : decode cX3_differOn 5 = .ok (.aload_n 0, 1) := by decide +kernel
theorem dX3_differOn_6 : decode cX3_differOn 6 = .ok (.getfield 30, 3) := by decide +kernel
theorem dX3_differOn_9 : decode cX3_differOn 9 = .ok (.if_icmp .ge 45, 3) := by decide +kernel
theorem dX3_differOn_12 : decode cX3_differOn 12 = .ok (.aload_n 0, 1) := by decide +kernel
theorem dX3_differOn_13 : decode cX3_differOn 13 = .ok (.iload_n 3, 1) := by decide +kernel
theorem dX3_differOn_14 : decode cX3_differOn 14 = .ok (.iload_n 1, 1) := by decide +kernel
theorem dX3_differOn_15 : decode cX3_differOn 15 = .ok (.invokevirtual 37, 3) := by decide +kernel
theorem dX3_differOn_18 : decode cX3_differOn 18 = .ok (.ifCond .ne 6, 3) := by decide +kernel
theorem dX3_differOn_21 : decode cX3_differOn 21 = .ok (.goto 27, 3) := by decide +kernel
theorem dX3_differOn_24 : decode cX3_differOn 24 = .ok (.iload_n 2, 1) := by decide +kernel
theorem dX3_differOn_25 : decode cX3_differOn 25 = .ok (.iconst (-1), 1) := by decide +kernel
theorem dX3_differOn_26 : decode cX3_differOn 26 = .ok (.if_icmp .eq 15, 3) := by decide +kernel
theorem dX3_differOn_29 : decode cX3_differOn 29 = .ok (.iload_n 2, 1) := by decide +kernel
theorem dX3_differOn_30 : decode cX3_differOn 30 = .ok (.aload_n 0, 1) := by decide +kernel
theorem dX3_differOn_31 : decode cX3_differOn 31 = .ok (.getfield 18, 3) := by decide +kernel
theorem dX3_differOn_34 : decode cX3_differOn 34 = .ok (.iload_n 3, 1) := by decide +kernel
theorem dX3_differOn_35 : decode cX3_differOn 35 = .ok (.iaload, 1) := by decide +kernel
theorem dX3_differOn_36 : decode cX3_differOn 36 = .ok (.if_icmp .eq 5, 3) := by decide +kernel
theorem dX3_differOn_39 : decode cX3_differOn 39 = .ok (.iconst 1, 1) := by decide +kernel
theorem dX3_differOn_40 : decode cX3_differOn 40 = .ok (.ireturn, 1) := by decide +kernel
theorem dX3_differOn_41 : decode cX3_differOn 41 = .ok (.aload_n 0, 1) := by decide +kernel
theorem dX3_differOn_42 : decode cX3_differOn 42 = .ok (.getfield 18, 3) := by decide +kernel
theorem dX3_differOn_45 : decode cX3_differOn 45 = .ok (.iload_n 3, 1) := by decide +kernel
theorem dX3_differOn_46 : decode cX3_differOn 46 = .ok (.iaload, 1) := by decide +kernel
theorem dX3_differOn_47 : decode cX3_differOn 47 = .ok (.istore_n 2, 1) := by decide +kernel
theorem dX3_differOn_48 : decode cX3_differOn 48 = .ok (.iinc 3 1, 3) := by decide +kernel
theorem dX3_differOn_51 : decode cX3_differOn 51 = .ok (.goto (-47), 3) := by decide +kernel
theorem dX3_differOn_54 : decode cX3_differOn 54 = .ok (.iconst 0, 1) := by decide +kernel
theorem dX3_differOn_55 : decode cX3_differOn 55 = .ok (.ireturn, 1) := by decide +kernel
theorem dX4_init_0 : decode cX4_init 0 = .ok (.aload_n 0, 1) := by decide +kernel
theorem dX4_init_1 : decode cX4_init 1 = .ok (.invokespecial 3, 3) := by decide +kernel
theorem dX4_init_4 : decode cX4_init 4 = .ok (.aload_n 0, 1) := by decide +kernel
theorem dX4_init_5 : decode cX4_init 5 = .ok (.bipush 10, 2) := by decide +kernel
theorem dX4_init_7 : decode cX4_init 7 = .ok (.iconst 5, 1) := by decide +kernel
theorem dX4_init_8 : decode cX4_init 8 = .ok (.multianewarray 9 2, 4) := by decide +kernel
theorem dX4_init_12 : decode cX4_init 12 = .ok (.putfield 11, 3) := by decide +kernel
theorem dX4_init_15 : decode cX4_init 15 = .ok (.iconst 0, 1) := by decide +kernel
theorem dX4_init_16 : decode cX4_init 16 = .ok (.istore_n 1, 1) := by decide +kernel
theorem dX4_init_17 : decode cX4_init 17 = .ok (.iload_n 1, 1) := by decide +kernel
theorem dX4_init_18 : decode cX4_init 18 = .ok (.bipush 10, 2) := by decide +kernel
theorem dX4_init_20 : decode cX4_init 20 = .ok (.if_icmp .ge 19, 3) := by decide +kernel
theorem dX4_init_23 : decode cX4_init 23 = .ok (.aload_n 0, 1) := by decide +kernel
theorem dX4_init_24 : decode cX4_init 24 = .ok (.getfield 11, 3) := by decide +kernel
theorem dX4_init_27 : decode cX4_init 27 = .ok (.iload_n 1, 1) := by decide +kernel
theorem dX4_init_28 : decode cX4_init 28 = .ok (.aaload, 1) := by decide +kernel
theorem dX4_init_29 : decode cX4_init 29 = .ok (.iconst (-1), 1) := by decide +kernel
theorem dX4_init_30 : decode cX4_init 30 = .ok (.invokestatic 16, 3) := by decide +kernel
theorem dX4_init_33 : decode cX4_init 33 = .ok (.iinc 1 1, 3) := by decide +kernel
theorem dX4_init_36 : decode cX4_init 36 = .ok (.goto (-19), 3) := by decide +kernel
theorem dX4_init_39 : decode cX4_init 39 = .ok (.return_, 1) := by decide +kernel
theorem dX4_shiftOf_0 : decode cX4_shiftOf 0 = .ok (.iconst 0, 1) := by decide +kernel
theorem dX4_shiftOf_1 : decode cX4_shiftOf 1 = .ok (.istore_n 2, 1) := by decide +kernel
theorem dX4_shiftOf_2 : decode cX4_shiftOf 2 = .ok (.iconst 0, 1) := by decide +kernel
theorem dX4_shiftOf_3 : decode cX4_shiftOf 3 = .ok (.istore_n 3, 1) := by decide +kernel
theorem dX4_shiftOf_4 : decode cX4_shiftOf 4 = .ok (.iconst 0, 1) := by decide +kernel
theorem dX4_shiftOf_5 : decode cX4_shiftOf 5 = .ok (.istore 4, 2) := by decide +kernel
theorem dX4_shiftOf_7 : decode cX4_shiftOf 7 = .ok (.iload 4, 2) := by decide +kernel
theorem dX4_shiftOf_9 : decode cX4_shiftOf 9 = .ok (.bipush 10, 2) := by decide +kernel
theorem dX4_shiftOf_11 : decode cX4_shiftOf 11 = .ok (.if_icmp .ge 54, 3) := by decide +kernel
theorem dX4_shiftOf_14 : decode cX4_shiftOf 14 = .ok (.aload_n 0, 1) := by decide +kernel
theorem dX4_shiftOf_15 : decode cX4_shiftOf 15 = .ok (.getfield 11, 3) := by decide +kernel
theorem dX4_shiftOf_18 : decode cX4_shiftOf 18 = .ok (.iload 4, 2) := by decide +kernel
theorem dX4_shiftOf_20 : decode cX4_shiftOf 20 = .ok (.aaload, 1) := by decide +kernel
theorem dX4_shiftOf_21 : decode cX4_shiftOf 21 = .ok (.iload_n 1, 1) := by decide +kernel
theorem dX4_shiftOf_22 : decode cX4_shiftOf 22 = .ok (.iaload, 1) := by decide +kernel
theorem dX4_shiftOf_23 : decode cX4_shiftOf 23 = .ok (.istore 5, 2) := by decide +kernel
theorem dX4_shiftOf_25 : decode cX4_shiftOf 25 = .ok (.aload_n 0, 1) := by decide +kernel
theorem dX4_shiftOf_26 : decode cX4_shiftOf 26 = .ok (.getfield 11, 3) := by decide +kernel
theorem dX4_shiftOf_29 : decode cX4_shiftOf 29 = .ok (.iload 4, 2) := by decide +kernel
theorem dX4_shiftOf_31 : decode cX4_shiftOf 31 = .ok (.aaload, 1) := by decide +kernel
theorem dX4_shiftOf_32 : decode cX4_shiftOf 32 = .ok (.iconst 0, 1) := by decide +kernel
theorem dX4_shiftOf_33 : decode cX4_shiftOf 33 = .ok (.iaload, 1) := by decide +kernel
theorem dX4_shiftOf_34 : decode cX4_shiftOf 34 = .ok (.istore 6, 2) := by decide +kernel
theorem dX4_shiftOf_36 : decode cX4_shiftOf 36 = .ok (.iload 5, 2) := by decide +kernel
theorem dX4_shiftOf_38 : decode cX4_shiftOf 38 = .ok (.iconst (-1), 1) := by decide +kernel
theorem dX4_shiftOf_39 : decode cX4_shiftOf 39 = .ok (.if_icmp .eq 20, 3) := by decide +kernel
theorem dX4_shiftOf_42 : decode cX4_shiftOf 42 = .ok (.iload 6, 2) := by decide +kernel
theorem dX4_shiftOf_44 : decode cX4_shiftOf 44 = .ok (.iconst (-1), 1) := by decide +kernel
theorem dX4_shiftOf_45 : decode cX4_shiftOf 45 = .ok (.if_icmp .eq 14, 3) := by decide +kernel
theorem dX4_shiftOf_48 : decode cX4_shiftOf 48 = .ok (.iload_n 2, 1) := by decide +kernel
theorem dX4_shiftOf_49 : decode cX4_shiftOf 49 = .ok (.iload 5, 2) := by decide +kernel
theorem dX4_shiftOf_51 : decode cX4_shiftOf 51 = .ok (.iload 6, 2) := by decide +kernel
theorem dX4_shiftOf_53 : decode cX4_shiftOf 53 = .ok (.isub, 1) := by decide +kernel
theorem dX4_shiftOf_54 : decode cX4_shiftOf 54 = .ok (.iadd, 1) := by decide +kernel
theorem dX4_shiftOf_55 : decode cX4_shiftOf 55 = .ok (.istore_n 2, 1) := by decide +kernel
theorem dX4_shiftOf_56 : decode cX4_shiftOf 56 = .ok (.iinc 3 1, 3) := by decide +kernel
theorem dX4_shiftOf_59 : decode cX4_shiftOf 59 = .ok (.iinc 4 1, 3) := by decide +kernel
theorem dX4_shiftOf_62 : decode cX4_shiftOf 62 = .ok (.goto (-55), 3) := by decide +kernel
theorem dX4_shiftOf_65 : decode cX4_shiftOf 65 = .ok (.iload_n 2, 1) := by decide +kernel
theorem dX4_shiftOf_66 : decode cX4_shiftOf 66 = .ok (.i2l, 1) := by decide +kernel
theorem dX4_shiftOf_67 : decode cX4_shiftOf 67 = .ok (.iload_n 3, 1) := by decide +kernel
theorem dX4_shiftOf_68 : decode cX4_shiftOf 68 = .ok (.invokestatic 22, 3) := by decide +kernel
theorem dX4_shiftOf_71 : decode cX4_shiftOf 71 = .ok (.ireturn, 1) := by decide +kernel
theorem dX4_onScale_0 : decode cX4_onScale 0 = .ok (.aload_n 0, 1) := by decide +kernel
theorem dX4_onScale_1 : decode cX4_onScale 1 = .ok (.getfield 11, 3) := by decide +kernel
theorem dX4_onScale_4 : decode cX4_onScale 4 = .ok (.iload_n 1, 1) := by decide +kernel
theorem dX4_onScale_5 : decode cX4_onScale 5 = .ok (.aaload, 1) := by decide +kernel
theorem dX4_onScale_6 : decode cX4_onScale 6 = .ok (.iload_n 2, 1) := by decide +kernel
theorem dX4_onScale_7 : decode cX4_onScale 7 = .ok (.iaload, 1) := by decide +kernel
theorem dX4_onScale_8 : decode cX4_onScale 8 = .ok (.aload_n 0, 1) := by decide +kernel
theorem dX4_onScale_9 : decode cX4_onScale 9 = .ok (.iload_n 2, 1) := by decide +kernel
theorem dX4_onScale_10 : decode cX4_onScale 10 = .ok (.invokevirtual 26, 3) := by decide +kernel
theorem dX4_onScale_13 : decode cX4_onScale 13 = .ok (.isub, 1) := by decide +kernel
theorem dX4_onScale_14 : decode cX4_onScale 14 = .ok (.istore_n 3, 1) := by decide +kernel
theorem dX4_onScale_15 : decode cX4_onScale 15 = .ok (.iconst 0, 1) := by decide +kernel
theorem dX4_onScale_16 : decode cX4_onScale 16 = .ok (.bipush 100, 2) := by decide +kernel
theorem dX4_onScale_18 : decode cX4_onScale 18 = .ok (.iload_n 3, 1) := by decide +kernel
theorem dX4_onScale_19 : decode cX4_onScale 19 = .ok (.invokestatic 30, 3) := by decide +kernel
theorem dX4_onScale_22 : decode cX4_onScale 22 = .ok (.invokestatic 36, 3) := by decide +kernel
theorem dX4_onScale_25 : decode cX4_onScale 25 = .ok (.ireturn, 1) := by decide +kernel
theorem dX4_describe_0 : decode cX4_describe 0 = .ok (.iconst 0, 1) := by decide +kernel
theorem dX4_describe_1 : decode cX4_describe 1 = .ok (.istore_n 3, 1) := by decide +kernel
theorem dX4_describe_2 : decode cX4_describe 2 = .ok (.iconst 0, 1) := by decide +kernel
theorem dX4_describe_3 : decode cX4_describe 3 = .ok (.istore 4, 2) := by decide +kernel
theorem dX4_describe_5 : decode cX4_describe 5 = .ok (.bipush 100, 2) := by decide +kernel
theorem dX4_describe_7 : decode cX4_describe 7 = .ok (.istore 5, 2) := by decide +kernel
theorem dX4_describe_9 : decode cX4_describe 9 = .ok (.iconst 0, 1) := by decide +kernel
theorem dX4_describe_10 : decode cX4_describe 10 = .ok (.istore 6, 2) := by decide +kernel
theorem dX4_describe_12 : decode cX4_describe 12 = .ok (.iconst 0, 1) := by decide +kernel
theorem dX4_describe_13 : decode cX4_describe 13 = .ok (.istore 7, 2) := by decide +kernel
theorem dX4_describe_15 : decode cX4_describe 15 = .ok (.iload 7, 2) := by decide +kernel
theorem dX4_describe_17 : decode cX4_describe 17 = .ok (.iconst 5, 1) := by decide +kernel
theorem dX4_describe_18 : decode cX4_describe 18 = .ok (.if_icmp .ge 59, 3) := by decide +kernel
theorem dX4_describe_21 : decode cX4_describe 21 = .ok (.aload_n 0, 1) := by decide +kernel
theorem dX4_describe_22 : decode cX4_describe 22 = .ok (.getfield 11, 3) := by decide +kernel
theorem dX4_describe_25 : decode cX4_describe 25 = .ok (.iload_n 1, 1) := by decide +kernel
theorem dX4_describe_26 : decode cX4_describe 26 = .ok (.aaload, 1) := by decide +kernel
theorem dX4_describe_27 : decode cX4_describe 27 = .ok (.iload 7, 2) := by decide +kernel
theorem dX4_describe_29 : decode cX4_describe 29 = .ok (.iaload, 1) := by decide +kernel
theorem dX4_describe_30 : decode cX4_describe 30 = .ok (.iconst (-1), 1) := by decide +kernel
theorem dX4_describe_31 : decode cX4_describe 31 = .ok (.if_icmp .eq 40, 3) := by decide +kernel
theorem dX4_describe_34 : decode cX4_describe 34 = .ok (.aload_n 0, 1) := by decide +kernel
theorem dX4_describe_35 : decode cX4_describe 35 = .ok (.iload_n 1, 1) := by decide +kernel
theorem dX4_describe_36 : decode cX4_describe 36 = .ok (.iload 7, 2) := by decide +kernel
theorem dX4_describe_38 : decode cX4_describe 38 = .ok (.invokevirtual 39, 3) := by decide +kernel
theorem dX4_describe_41 : decode cX4_describe 41 = .ok (.istore 8, 2) := by decide +kernel
theorem dX4_describe_43 : decode cX4_describe 43 = .ok (.iinc 3 1, 3) := by decide +kernel
theorem dX4_describe_46 : decode cX4_describe 46 = .ok (.iload 4, 2) := by decide +kernel
theorem dX4_describe_48 : decode cX4_describe 48 = .ok (.iload 8, 2) := by decide +kernel
theorem dX4_describe_50 : decode cX4_describe 50 = .ok (.iadd, 1) := by decide +kernel
theorem dX4_describe_51 : decode cX4_describe 51 = .ok (.istore 4, 2) := by decide +kernel
theorem dX4_describe_53 : decode cX4_describe 53 = .ok (.iload 5, 2) := by decide +kernel
theorem dX4_describe_55 : decode cX4_describe 55 = .ok (.iload 8, 2) := by decide +kernel
theorem dX4_describe_57 : decode cX4_describe 57 = .ok (.invokestatic 30, 3) := by decide +kernel
theorem dX4_describe_60 : decode cX4_describe 60 = .ok (.istore 5, 2) := by decide +kernel
theorem dX4_describe_62 : decode cX4_describe 62 = .ok (.iload 6, 2) := by decide +kernel
theorem dX4_describe_64 : decode cX4_describe 64 = .ok (.iload 8, 2) := by decide +kernel
theorem dX4_describe_66 : decode cX4_describe 66 = .ok (.invokestatic 36, 3) := by decide +kernel
theorem dX4_describe_69 : decode cX4_describe 69 = .ok (.istore 6, 2) := by decide +kernel
theorem dX4_describe_71 : decode cX4_describe 71 = .ok (.iinc 7 1, 3) := by decide +kernel
theorem dX4_describe_74 : decode cX4_describe 74 = .ok (.goto (-59), 3) := by decide +kernel
theorem dX4_describe_77 : decode cX4_describe 77 = .ok (.aload_n 2, 1) := by decide +kernel
theorem dX4_describe_78 : decode cX4_describe 78 = .ok (.iconst 0, 1) := by decide +kernel
theorem dX4_describe_79 : decode cX4_describe 79 = .ok (.iload_n 3, 1) := by decide +kernel
theorem dX4_describe_80 : decode cX4_describe 80 = .ok (.iastore, 1) := by decide +kernel
theorem dX4_describe_81 : decode cX4_describe 81 = .ok (.aload_n 2, 1) := by decide +kernel
theorem dX4_describe_82 : decode cX4_describe 82 = .ok (.iconst 1, 1) := by decide +kernel
theorem dX4_describe_83 : decode cX4_describe 83 = .ok (.iload 4, 2) := by decide +kernel
theorem dX4_describe_85 : decode cX4_describe 85 = .ok (.i2l, 1) := by decide +kernel
theorem dX4_describe_86 : decode cX4_describe 86 = .ok (.iload_n 3, 1) := by decide +kernel
theorem dX4_describe_87 : decode cX4_describe 87 = .ok (.invokestatic 22, 3) := by decide +kernel
theorem dX4_describe_90 : decode cX4_describe 90 = .ok (.iastore, 1) := by decide +kernel
theorem dX4_describe_91 : decode cX4_describe 91 = .ok (.aload_n 2, 1) := by decide +kernel
theorem dX4_describe_92 : decode cX4_describe 92 = .ok (.iconst 2, 1) := by decide +kernel
theorem dX4_describe_93 : decode cX4_describe 93 = .ok (.iload_n 3, 1) := by decide +kernel
theorem dX4_describe_94 : decode cX4_describe 94 = .ok (.ifCond .ne 7, 3) := by decide +kernel
theorem dX4_describe_97 : decode cX4_describe 97 = .ok (.iconst 0, 1) := by decide +kernel
theorem dX4_describe_98 : decode cX4_describe 98 = .ok (.goto 5, 3) := by decide +kernel
theorem dX4_describe_101 : decode cX4_describe 101 = .ok (.iload 5, 2) := by decide +kernel
theorem dX4_describe_103 : decode cX4_describe 103 = .ok (.iastore, 1) := by decide +kernel
theorem dX4_describe_104 : decode cX4_describe 104 = .ok (.aload_n 2, 1) := by decide +kernel
theorem dX4_describe_105 : decode cX4_describe 105 = .ok (.iconst 3, 1) := by decide +kernel
theorem dX4_describe_106 : decode cX4_describe 106 = .ok (.iload 6, 2) := by decide +kernel
theorem dX4_describe_108 : decode cX4_describe 108 = .ok (.iastore, 1) := by decide +kernel
theorem dX4_describe_109 : decode cX4_describe 109 = .ok (.return_, 1) := by decide +kernel
theorem dX5_init_0 : decode cX5_init 0 = .ok (.aload_n 0, 1) := by decide +kernel
theorem dX5_init_1 : decode cX5_init 1 = .ok (.invokespecial 3, 3) := by decide +kernel
theorem dX5_init_4 : decode cX5_init 4 = .ok (.aload_n 0, 1) := by decide +kernel
theorem dX5_init_5 : decode cX5_init 5 = .ok (.new 9, 3) := by decide +kernel
theorem dX5_init_8 : decode cX5_init 8 = .ok (.dup, 1) := by decide +kernel
theorem dX5_init_9 : decode cX5_init 9 = .ok (.invokespecial 11, 3) := by decide +kernel
theorem dX5_init_12 : decode cX5_init 12 = .ok (.putfield 12, 3) := by decide +kernel
theorem dX5_init_15 : decode cX5_init 15 = .ok (.aload_n 0, 1) := by decide +kernel
theorem dX5_init_16 : decode cX5_init 16 = .ok (.new 18, 3) := by decide +kernel
theorem dX5_init_19 : decode cX5_init 19 = .ok (.dup, 1) := by decide +kernel
theorem dX5_init_20 : decode cX5_init 20 = .ok (.invokespecial 20, 3) := by decide +kernel
theorem dX5_init_23 : decode cX5_init 23 = .ok (.putfield 21, 3) := by decide +kernel
theorem dX5_init_26 : decode cX5_init 26 = .ok (.return_, 1) := by decide +kernel
theorem dX5_parse_0 : decode cX5_parse 0 = .ok (.aload_n 0, 1) := by decide +kernel
theorem dX5_parse_1 : decode cX5_parse 1 = .ok (.getfield 12, 3) := by decide +kernel
theorem dX5_parse_4 : decode cX5_parse 4 = .ok (.aload_n 1, 1) := by decide +kernel
theorem dX5_parse_5 : decode cX5_parse 5 = .ok (.invokevirtual 25, 3) := by decide +kernel
theorem dX5_parse_8 : decode cX5_parse 8 = .ok (.aload_n 0, 1) := by decide +kernel
theorem dX5_parse_9 : decode cX5_parse 9 = .ok (.getfield 21, 3) := by decide +kernel
theorem dX5_parse_12 : decode cX5_parse 12 = .ok (.invokevirtual 29, 3) := by decide +kernel
theorem dX5_parse_15 : decode cX5_parse 15 = .ok (.aload_n 0, 1) := by decide +kernel
theorem dX5_parse_16 : decode cX5_parse 16 = .ok (.iconst 0, 1) := by decide +kernel
theorem dX5_parse_17 : decode cX5_parse 17 = .ok (.putfield 32, 3) := by decide +kernel
theorem dX5_parse_20 : decode cX5_parse 20 = .ok (.aload_n 0, 1) := by decide +kernel
theorem dX5_parse_21 : decode cX5_parse 21 = .ok (.iconst 0, 1) := by decide +kernel
theorem dX5_parse_22 : decode cX5_parse 22 = .ok (.putfield 36, 3) := by decide +kernel
theorem dX5_parse_25 : decode cX5_parse 25 = .ok (.iconst 0, 1) := by decide +kernel
theorem dX5_parse_26 : decode cX5_parse 26 = .ok (.istore_n 2, 1) := by decide +kernel
theorem dX5_parse_27 : decode cX5_parse 27 = .ok (.iload_n 2, 1) := by decide +kernel
theorem dX5_parse_28 : decode cX5_parse 28 = .ok (.bipush 16, 2) := by decide +kernel
theorem dX5_parse_30 : decode cX5_parse 30 = .ok (.if_icmp .gt 29, 3) := by decide +kernel
theorem dX5_parse_33 : decode cX5_parse 33 = .ok (.aload_n 0, 1) := by decide +kernel
theorem dX5_parse_34 : decode cX5_parse 34 = .ok (.invokevirtual 39, 3) := by decide +kernel
theorem dX5_parse_37 : decode cX5_parse 37 = .ok (.ifCond .eq 22, 3) := by decide +kernel
theorem dX5_parse_40 : decode cX5_parse 40 = .ok (.aload_n 0, 1) := by decide +kernel
theorem dX5_parse_41 : decode cX5_parse 41 = .ok (.iload_n 2, 1) := by decide +kernel
theorem dX5_parse_42 : decode cX5_parse 42 = .ok (.invokevirtual 43, 3) := by decide +kernel
theorem dX5_parse_45 : decode cX5_parse 45 = .ok (.ifCond .ne 8, 3) := by decide +kernel
theorem dX5_parse_48 : decode cX5_parse 48 = .ok (.aload_n 0, 1) := by decide +kernel
theorem dX5_parse_49 : decode cX5_parse 49 = .ok (.getfield 36, 3) := by decide +kernel
theorem dX5_parse_52 : decode cX5_parse 52 = .ok (.ireturn, 1) := by decide +kernel
theorem dX5_parse_53 : decode cX5_parse 53 = .ok (.iinc 2 1, 3) := by decide +kernel
theorem dX5_parse_56 : decode cX5_parse 56 = .ok (.goto (-29), 3) := by decide +kernel
theorem dX5_parse_59 : decode cX5_parse 59 = .ok (.iconst 0, 1) := by decide +kernel
theorem dX5_parse_60 : decode cX5_parse 60 = .ok (.ireturn, 1) := by decide +kernel
theorem dX5_parseLine_0 : decode cX5_parseLine 0 = .ok (.aload_n 0, 1) := by decide +kernel
theorem dX5_parseLine_1 : decode cX5_parseLine 1 = .ok (.invokevirtual 39, 3) := by decide +kernel
theorem dX5_parseLine_4 : decode cX5_parseLine 4 = .ok (.sipush 201, 3) := by decide +kernel
theorem dX5_parseLine_7 : decode cX5_parseLine 7 = .ok (.if_icmp .eq 9, 3) := by decide +kernel
theorem dX5_parseLine_10 : decode cX5_parseLine 10 = .ok (.aload_n 0, 1) := by decide +kernel
theorem dX5_parseLine_11 : decode cX5_parseLine 11 = .ok (.iconst 1, 1) := by decide +kernel
theorem dX5_parseLine_12 : decode cX5_parseLine 12 = .ok (.invokevirtual 47, 3) := by decide +kernel
theorem dX5_parseLine_15 : decode cX5_parseLine 15 = .ok (.ireturn, 1) := by decide +kernel
theorem dX5_parseLine_16 : decode cX5_parseLine 16 = .ok (.iload_n 1, 1) := by decide +kernel
theorem dX5_parseLine_17 : decode cX5_parseLine 17 = .ok (.bipush 16, 2) := by decide +kernel
theorem dX5_parseLine_19 : decode cX5_parseLine 19 = .ok (.if_icmp .lt 9, 3) := by decide +kernel
theorem dX5_parseLine_22 : decode cX5_parseLine 22 = .ok (.aload_n 0, 1) := by decide +kernel
theorem dX5_parseLine_23 : decode cX5_parseLine 23 = .ok (.iconst 5, 1) := by decide +kernel
theorem dX5_parseLine_24 : decode cX5_parseLine 24 = .ok (.invokevirtual 47, 3) := by decide +kernel
theorem dX5_parseLine_27 : decode cX5_parseLine 27 = .ok (.ireturn, 1) := by decide +kernel
theorem dX5_parseLine_28 : decode cX5_parseLine 28 = .ok (.aload_n 0, 1) := by decide +kernel
theorem dX5_parseLine_29 : decode cX5_parseLine 29 = .ok (.dup, 1) := by decide +kernel
theorem dX5_parseLine_30 : decode cX5_parseLine 30 = .ok (.getfield 32, 3) := by decide +kernel
theorem dX5_parseLine_33 : decode cX5_parseLine 33 = .ok (.iconst 1, 1) := by decide +kernel
theorem dX5_parseLine_34 : decode cX5_parseLine 34 = .ok (.iadd, 1) := by decide +kernel
theorem dX5_parseLine_35 : decode cX5_parseLine 35 = .ok (.putfield 32, 3) := by decide +kernel
theorem dX5_parseLine_38 : decode cX5_parseLine 38 = .ok (.aload_n 0, 1) := by decide +kernel
theorem dX5_parseLine_39 : decode cX5_parseLine 39 = .ok (.invokevirtual 39, 3) := by decide +kernel
theorem dX5_parseLine_42 : decode cX5_parseLine 42 = .ok (.iconst 2, 1) := by decide +kernel
theorem dX5_parseLine_43 : decode cX5_parseLine 43 = .ok (.if_icmp .eq 9, 3) := by decide +kernel
theorem dX5_parseLine_46 : decode cX5_parseLine 46 = .ok (.aload_n 0, 1) := by decide +kernel
theorem dX5_parseLine_47 : decode cX5_parseLine 47 = .ok (.iconst 1, 1) := by decide +kernel
theorem dX5_parseLine_48 : decode cX5_parseLine 48 = .ok (.invokevirtual 47, 3) := by decide +kernel
theorem dX5_parseLine_51 : decode cX5_parseLine 51 = .ok (.ireturn, 1) := by decide +kernel
theorem dX5_parseLine_52 : decode cX5_parseLine 52 = .ok (.aload_n 0, 1) := by decide +kernel
theorem dX5_parseLine_53 : decode cX5_parseLine 53 = .ok (.getfield 12, 3) := by decide +kernel
theorem dX5_parseLine_56 : decode cX5_parseLine 56 = .ok (.getfield 50, 3) := by decide +kernel
theorem dX5_parseLine_59 : decode cX5_parseLine 59 = .ok (.aload_n 0, 1) := by decide +kernel
theorem dX5_parseLine_60 : decode cX5_parseLine 60 = .ok (.getfield 32, 3) := by decide +kernel
theorem dX5_parseLine_63 : decode cX5_parseLine 63 = .ok (.iaload, 1) := by decide +kernel
theorem dX5_parseLine_64 : decode cX5_parseLine 64 = .ok (.istore_n 2, 1) := by decide +kernel
theorem dX5_parseLine_65 : decode cX5_parseLine 65 = .ok (.iload_n 2, 1) := by decide +kernel
theorem dX5_parseLine_66 : decode cX5_parseLine 66 = .ok (.iconst 5, 1) := by decide +kernel
theorem dX5_parseLine_67 : decode cX5_parseLine 67 = .ok (.if_icmp .le 9, 3) := by decide +kernel
theorem dX5_parseLine_70 : decode cX5_parseLine 70 = .ok (.aload_n 0, 1) := by decide +kernel
theorem dX5_parseLine_71 : decode cX5_parseLine 71 = .ok (.iconst 4, 1) := by decide +kernel
theorem dX5_parseLine_72 : decode cX5_parseLine 72 = .ok (.invokevirtual 47, 3) := by decide +kernel
theorem dX5_parseLine_75 : decode cX5_parseLine 75 = .ok (.ireturn, 1) := by decide +kernel
theorem dX5_parseLine_76 : decode cX5_parseLine 76 = .ok (.aload_n 0, 1) := by decide +kernel
theorem dX5_parseLine_77 : decode cX5_parseLine 77 = .ok (.dup, 1) := by decide +kernel
theorem dX5_parseLine_78 : decode cX5_parseLine 78 = .ok (.getfield 32, 3) := by decide +kernel
theorem dX5_parseLine_81 : decode cX5_parseLine 81 = .ok (.iconst 1, 1) := by decide +kernel
theorem dX5_parseLine_82 : decode cX5_parseLine 82 = .ok (.iadd, 1) := by decide +kernel
theorem dX5_parseLine_83 : decode cX5_parseLine 83 = .ok (.putfield 32, 3) := by decide +kernel
theorem dX5_parseLine_86 : decode cX5_parseLine 86 = .ok (.aload_n 0, 1) := by decide +kernel
theorem dX5_parseLine_87 : decode cX5_parseLine 87 = .ok (.sipush 202, 3) := by decide +kernel
theorem dX5_parseLine_90 : decode cX5_parseLine 90 = .ok (.invokevirtual 54, 3) := by decide +kernel
theorem dX5_parseLine_93 : decode cX5_parseLine 93 = .ok (.ifCond .eq 21, 3) := by decide +kernel
theorem dX5_parseLine_96 : decode cX5_parseLine 96 = .ok (.aload_n 0, 1) := by decide +kernel
theorem dX5_parseLine_97 : decode cX5_parseLine 97 = .ok (.iconst 0, 1) := by decide +kernel
theorem dX5_parseLine_98 : decode cX5_parseLine 98 = .ok (.iconst 0, 1) := by decide +kernel
theorem dX5_parseLine_99 : decode cX5_parseLine 99 = .ok (.invokevirtual 57, 3) := by decide +kernel
theorem dX5_parseLine_102 : decode cX5_parseLine 102 = .ok (.ifCond .eq 12, 3) := by decide +kernel
theorem dX5_parseLine_105 : decode cX5_parseLine 105 = .ok (.aload_n 0, 1) := by decide +kernel
theorem dX5_parseLine_106 : decode cX5_parseLine 106 = .ok (.bipush 59, 2) := by decide +kernel
theorem dX5_parseLine_108 : decode cX5_parseLine 108 = .ok (.invokevirtual 54, 3) := by decide +kernel
theorem dX5_parseLine_111 : decode cX5_parseLine 111 = .ok (.ifCond .ne 5, 3) := by decide +kernel
theorem dX5_parseLine_114 : decode cX5_parseLine 114 = .ok (.iconst 0, 1) := by decide +kernel
theorem dX5_parseLine_115 : decode cX5_parseLine 115 = .ok (.ireturn, 1) := by decide +kernel
theorem dX5_parseLine_116 : decode cX5_parseLine 116 = .ok (.aload_n 0, 1) := by decide +kernel
theorem dX5_parseLine_117 : decode cX5_parseLine 117 = .ok (.getfield 21, 3) := by decide +kernel
theorem dX5_parseLine_120 : decode cX5_parseLine 120 = .ok (.iload_n 2, 1) := by decide +kernel
theorem dX5_parseLine_121 : decode cX5_parseLine 121 = .ok (.invokevirtual 61, 3) := by decide +kernel
theorem dX5_parseLine_124 : decode cX5_parseLine 124 = .ok (.iconst 1, 1) := by decide +kernel
theorem dX5_parseLine_125 : decode cX5_parseLine 125 = .ok (.ireturn, 1) := by decide +kernel
theorem dX5_parseJoined_0 : decode cX5_parseJoined 0 = .ok (.iload_n 1, 1) := by decide +kernel
theorem dX5_parseJoined_1 : decode cX5_parseJoined 1 = .ok (.iconst 2, 1) := by decide +kernel
theorem dX5_parseJoined_2 : decode cX5_parseJoined 2 = .ok (.if_icmp .le 9, 3) := by decide +kernel
theorem dX5_parseJoined_5 : decode cX5_parseJoined 5 = .ok (.aload_n 0, 1) := by decide +kernel
theorem dX5_parseJoined_6 : decode cX5_parseJoined 6 = .ok (.iload_n 2, 1) := by decide +kernel
theorem dX5_parseJoined_7 : decode cX5_parseJoined 7 = .ok (.invokevirtual 65, 3) := by decide +kernel
theorem dX5_parseJoined_10 : decode cX5_parseJoined 10 = .ok (.ireturn, 1) := by decide +kernel
theorem dX5_parseJoined_11 : decode cX5_parseJoined 11 = .ok (.aload_n 0, 1) := by decide +kernel
theorem dX5_parseJoined_12 : decode cX5_parseJoined 12 = .ok (.iload_n 1, 1) := by decide +kernel
theorem dX5_parseJoined_13 : decode cX5_parseJoined 13 = .ok (.iconst 1, 1) := by decide +kernel
theorem dX5_parseJoined_14 : decode cX5_parseJoined 14 = .ok (.iadd, 1) := by decide +kernel
theorem dX5_parseJoined_15 : decode cX5_parseJoined 15 = .ok (.iload_n 2, 1) := by decide +kernel
theorem dX5_parseJoined_16 : decode cX5_parseJoined 16 = .ok (.invokevirtual 57, 3) := by decide +kernel
theorem dX5_parseJoined_19 : decode cX5_parseJoined 19 = .ok (.ifCond .ne 5, 3) := by decide +kernel
theorem dX5_parseJoined_22 : decode cX5_parseJoined 22 = .ok (.iconst 0, 1) := by decide +kernel
theorem dX5_parseJoined_23 : decode cX5_parseJoined 23 = .ok (.ireturn, 1) := by decide +kernel
theorem dX5_parseJoined_24 : decode cX5_parseJoined 24 = .ok (.iload_n 1, 1) := by decide +kernel
theorem dX5_parseJoined_25 : decode cX5_parseJoined 25 = .ok (.iconst 1, 1) := by decide +kernel
theorem dX5_parseJoined_26 : decode cX5_parseJoined 26 = .ok (.if_icmp .ne 7, 3) := by decide +kernel
theorem dX5_parseJoined_29 : decode cX5_parseJoined 29 = .ok (.iconst 1, 1) := by decide +kernel
theorem dX5_parseJoined_30 : decode cX5_parseJoined 30 = .ok (.goto 6, 3) := by decide +kernel
theorem dX5_parseJoined_33 : decode cX5_parseJoined 33 = .ok (.sipush 600, 3) := by decide +kernel
theorem dX5_parseJoined_36 : decode cX5_parseJoined 36 = .ok (.istore_n 3, 1) := by decide +kernel
theorem dX5_parseJoined_37 : decode cX5_parseJoined 37 = .ok (.iconst 0, 1) := by decide +kernel
theorem dX5_parseJoined_38 : decode cX5_parseJoined 38 = .ok (.istore 4, 2) := by decide +kernel
theorem dX5_parseJoined_40 : decode cX5_parseJoined 40 = .ok (.iload 4, 2) := by decide +kernel
theorem dX5_parseJoined_42 : decode cX5_parseJoined 42 = .ok (.iload_n 3, 1) := by decide +kernel
theorem dX5_parseJoined_43 : decode cX5_parseJoined 43 = .ok (.if_icmp .ge 59, 3) := by decide +kernel
theorem dX5_parseJoined_46 : decode cX5_parseJoined 46 = .ok (.aload_n 0, 1) := by decide +kernel
theorem dX5_parseJoined_47 : decode cX5_parseJoined 47 = .ok (.invokevirtual 39, 3) := by decide +kernel
theorem dX5_parseJoined_50 : decode cX5_parseJoined 50 = .ok (.invokestatic 68, 3) := by decide +kernel
theorem dX5_parseJoined_53 : decode cX5_parseJoined 53 = .ok (.iload_n 1, 1) := by decide +kernel
theorem dX5_parseJoined_54 : decode cX5_parseJoined 54 = .ok (.if_icmp .ne 48, 3) := by decide +kernel
theorem dX5_parseJoined_57 : decode cX5_parseJoined 57 = .ok (.aload_n 0, 1) := by decide +kernel
theorem dX5_parseJoined_58 : decode cX5_parseJoined 58 = .ok (.invokevirtual 39, 3) := by decide +kernel
theorem dX5_parseJoined_61 : decode cX5_parseJoined 61 = .ok (.istore 5, 2) := by decide +kernel
theorem dX5_parseJoined_63 : decode cX5_parseJoined 63 = .ok (.aload_n 0, 1) := by decide +kernel
theorem dX5_parseJoined_64 : decode cX5_parseJoined 64 = .ok (.dup, 1) := by decide +kernel
theorem dX5_parseJoined_65 : decode cX5_parseJoined 65 = .ok (.getfield 32, 3) := by decide +kernel
theorem dX5_parseJoined_68 : decode cX5_parseJoined 68 = .ok (.iconst 1, 1) := by decide +kernel
theorem dX5_parseJoined_69 : decode cX5_parseJoined 69 = .ok (.iadd, 1) := by decide +kernel
theorem dX5_parseJoined_70 : decode cX5_parseJoined 70 = .ok (.putfield 32, 3) := by decide +kernel
theorem dX5_parseJoined_73 : decode cX5_parseJoined 73 = .ok (.aload_n 0, 1) := by decide +kernel
theorem dX5_parseJoined_74 : decode cX5_parseJoined 74 = .ok (.iload_n 1, 1) := by decide +kernel
theorem dX5_parseJoined_75 : decode cX5_parseJoined 75 = .ok (.iconst 1, 1) := by decide +kernel
theorem dX5_parseJoined_76 : decode cX5_parseJoined 76 = .ok (.iadd, 1) := by decide +kernel
theorem dX5_parseJoined_77 : decode cX5_parseJoined 77 = .ok (.iload_n 2, 1) := by decide +kernel
theorem dX5_parseJoined_78 : decode cX5_parseJoined 78 = .ok (.invokevirtual 57, 3) := by decide +kernel
theorem dX5_parseJoined_81 : decode cX5_parseJoined 81 = .ok (.ifCond .ne 5, 3) := by decide +kernel
theorem dX5_parseJoined_84 : decode cX5_parseJoined 84 = .ok (.iconst 0, 1) := by decide +kernel
theorem dX5_parseJoined_85 : decode cX5_parseJoined 85 = .ok (.ireturn, 1) := by decide +kernel
theorem dX5_parseJoined_86 : decode cX5_parseJoined 86 = .ok (.aload_n 0, 1) := by decide +kernel
theorem dX5_parseJoined_87 : decode cX5_parseJoined 87 = .ok (.getfield 21, 3) := by decide +kernel
theorem dX5_parseJoined_90 : decode cX5_parseJoined 90 = .ok (.iload 5, 2) := by decide +kernel
theorem dX5_parseJoined_92 : decode cX5_parseJoined 92 = .ok (.ineg, 1) := by decide +kernel
theorem dX5_parseJoined_93 : decode cX5_parseJoined 93 = .ok (.invokevirtual 72, 3) := by decide +kernel
theorem dX5_parseJoined_96 : decode cX5_parseJoined 96 = .ok (.iinc 4 1, 3) := by decide +kernel
theorem dX5_parseJoined_99 : decode cX5_parseJoined 99 = .ok (.goto (-59), 3) := by decide +kernel
theorem dX5_parseJoined_102 : decode cX5_parseJoined 102 = .ok (.iconst 1, 1) := by decide +kernel
theorem dX5_parseJoined_103 : decode cX5_parseJoined 103 = .ok (.ireturn, 1) := by decide +kernel
theorem dX5_parsePart_0 : decode cX5_parsePart 0 = .ok (.aload_n 0, 1) := by decide +kernel
theorem dX5_parsePart_1 : decode cX5_parsePart 1 = .ok (.invokevirtual 39, 3) := by decide +kernel
theorem dX5_parsePart_4 : decode cX5_parsePart 4 = .ok (.istore_n 2, 1) := by decide +kernel
theorem dX5_parsePart_5 : decode cX5_parsePart 5 = .ok (.iload_n 2, 1) := by decide +kernel
theorem dX5_parsePart_6 : decode cX5_parsePart 6 = .ok (.invokestatic 75, 3) := by decide +kernel
theorem dX5_parsePart_9 : decode cX5_parsePart 9 = .ok (.istore_n 3, 1) := by decide +kernel
theorem dX5_parsePart_10 : decode cX5_parsePart 10 = .ok (.iload_n 2, 1) := by decide +kernel
theorem dX5_parsePart_11 : decode cX5_parsePart 11 = .ok (.bipush 40, 2) := by decide +kernel
theorem dX5_parsePart_13 : decode cX5_parsePart 13 = .ok (.if_icmp .eq 18, 3) := by decide +kernel
theorem dX5_parsePart_16 : decode cX5_parsePart 16 = .ok (.iload_n 2, 1) := by decide +kernel
theorem dX5_parsePart_17 : decode cX5_parsePart 17 = .ok (.iconst 2, 1) := by decide +kernel
theorem dX5_parsePart_18 : decode cX5_parsePart 18 = .ok (.if_icmp .eq 13, 3) := by decide +kernel
theorem dX5_parsePart_21 : decode cX5_parsePart 21 = .ok (.iload_n 3, 1) := by decide +kernel
theorem dX5_parsePart_22 : decode cX5_parsePart 22 = .ok (.ifCond .ne 9, 3) := by decide +kernel
theorem dX5_parsePart_25 : decode cX5_parsePart 25 = .ok (.aload_n 0, 1) := by decide +kernel
theorem dX5_parsePart_26 : decode cX5_parsePart 26 = .ok (.iconst 1, 1) := by decide +kernel
theorem dX5_parsePart_27 : decode cX5_parsePart 27 = .ok (.invokevirtual 47, 3) := by decide +kernel
theorem dX5_parsePart_30 : decode cX5_parsePart 30 = .ok (.ireturn, 1) := by decide +kernel
theorem dX5_parsePart_31 : decode cX5_parsePart 31 = .ok (.iload_n 1, 1) := by decide +kernel
theorem dX5_parsePart_32 : decode cX5_parsePart 32 = .ok (.iconst 5, 1) := by decide +kernel
theorem dX5_parsePart_33 : decode cX5_parsePart 33 = .ok (.if_icmp .lt 9, 3) := by decide +kernel
theorem dX5_parsePart_36 : decode cX5_parsePart 36 = .ok (.aload_n 0, 1) := by decide +kernel
theorem dX5_parsePart_37 : decode cX5_parsePart 37 = .ok (.iconst 5, 1) := by decide +kernel
theorem dX5_parsePart_38 : decode cX5_parsePart 38 = .ok (.invokevirtual 47, 3) := by decide +kernel
theorem dX5_parsePart_41 : decode cX5_parsePart 41 = .ok (.ireturn, 1) := by decide +kernel
theorem dX5_parsePart_42 : decode cX5_parsePart 42 = .ok (.iload_n 2, 1) := by decide +kernel
theorem dX5_parsePart_43 : decode cX5_parsePart 43 = .ok (.bipush 40, 2) := by decide +kernel
theorem dX5_parsePart_45 : decode cX5_parsePart 45 = .ok (.if_icmp .ne 39, 3) := by decide +kernel
theorem dX5_parsePart_48 : decode cX5_parsePart 48 = .ok (.aload_n 0, 1) := by decide +kernel
theorem dX5_parsePart_49 : decode cX5_parsePart 49 = .ok (.dup, 1) := by decide +kernel
theorem dX5_parsePart_50 : decode cX5_parsePart 50 = .ok (.getfield 32, 3) := by decide +kernel
theorem dX5_parsePart_53 : decode cX5_parsePart 53 = .ok (.iconst 1, 1) := by decide +kernel
theorem dX5_parsePart_54 : decode cX5_parsePart 54 = .ok (.iadd, 1) := by decide +kernel
theorem dX5_parsePart_55 : decode cX5_parsePart 55 = .ok (.putfield 32, 3) := by decide +kernel
theorem dX5_parsePart_58 : decode cX5_parsePart 58 = .ok (.aload_n 0, 1) := by decide +kernel
theorem dX5_parsePart_59 : decode cX5_parsePart 59 = .ok (.iconst 0, 1) := by decide +kernel
theorem dX5_parsePart_60 : decode cX5_parsePart 60 = .ok (.iload_n 1, 1) := by decide +kernel
theorem dX5_parsePart_61 : decode cX5_parsePart 61 = .ok (.iconst 1, 1) := by decide +kernel
theorem dX5_parsePart_62 : decode cX5_parsePart 62 = .ok (.iadd, 1) := by decide +kernel
theorem dX5_parsePart_63 : decode cX5_parsePart 63 = .ok (.invokevirtual 57, 3) := by decide +kernel
theorem dX5_parsePart_66 : decode cX5_parsePart 66 = .ok (.ifCond .eq 16, 3) := by decide +kernel
theorem dX5_parsePart_69 : decode cX5_parsePart 69 = .ok (.aload_n 0, 1) := by decide +kernel
theorem dX5_parsePart_70 : decode cX5_parsePart 70 = .ok (.bipush 41, 2) := by decide +kernel
theorem dX5_parsePart_72 : decode cX5_parsePart 72 = .ok (.invokevirtual 54, 3) := by decide +kernel
theorem dX5_parsePart_75 : decode cX5_parsePart 75 = .ok (.ifCond .eq 7, 3) := by decide +kernel
theorem dX5_parsePart_78 : decode cX5_parsePart 78 = .ok (.iconst 1, 1) := by decide +kernel
theorem dX5_parsePart_79 : decode cX5_parsePart 79 = .ok (.goto 4, 3) := by decide +kernel
theorem dX5_parsePart_82 : decode cX5_parsePart 82 = .ok (.iconst 0, 1) := by decide +kernel
theorem dX5_parsePart_83 : decode cX5_parsePart 83 = .ok (.ireturn, 1) := by decide +kernel
theorem dX5_parsePart_84 : decode cX5_parsePart 84 = .ok (.aload_n 0, 1) := by decide +kernel
theorem dX5_parsePart_85 : decode cX5_parsePart 85 = .ok (.getfield 21, 3) := by decide +kernel
theorem dX5_parsePart_88 : decode cX5_parsePart 88 = .ok (.iload_n 3, 1) := by decide +kernel
theorem dX5_parsePart_89 : decode cX5_parsePart 89 = .ok (.ifCond .eq 8, 3) := by decide +kernel
theorem dX5_parsePart_92 : decode cX5_parsePart 92 = .ok (.iload_n 2, 1) := by decide +kernel
theorem dX5_parsePart_93 : decode cX5_parsePart 93 = .ok (.ineg, 1) := by decide +kernel
theorem dX5_parsePart_94 : decode cX5_parsePart 94 = .ok (.goto 15, 3) := by decide +kernel
theorem dX5_parsePart_97 : decode cX5_parsePart 97 = .ok (.aload_n 0, 1) := by decide +kernel
theorem dX5_parsePart_98 : decode cX5_parsePart 98 = .ok (.getfield 12, 3) := by decide +kernel
theorem dX5_parsePart_101 : decode cX5_parsePart 101 = .ok (.getfield 50, 3) := by decide +kernel
theorem dX5_parsePart_104 : decode cX5_parsePart 104 = .ok (.aload_n 0, 1) := by decide +kernel
theorem dX5_parsePart_105 : decode cX5_parsePart 105 = .ok (.getfield 32, 3) := by decide +kernel
theorem dX5_parsePart_108 : decode cX5_parsePart 108 = .ok (.iaload, 1) := by decide +kernel
theorem dX5_parsePart_109 : decode cX5_parsePart 109 = .ok (.invokevirtual 72, 3) := by decide +kernel
theorem dX5_parsePart_112 : decode cX5_parsePart 112 = .ok (.aload_n 0, 1) := by decide +kernel
theorem dX5_parsePart_113 : decode cX5_parsePart 113 = .ok (.dup, 1) := by decide +kernel
theorem dX5_parsePart_114 : decode cX5_parsePart 114 = .ok (.getfield 32, 3) := by decide +kernel
theorem dX5_parsePart_117 : decode cX5_parsePart 117 = .ok (.iconst 1, 1) := by decide +kernel
theorem dX5_parsePart_118 : decode cX5_parsePart 118 = .ok (.iadd, 1) := by decide +kernel
theorem dX5_parsePart_119 : decode cX5_parsePart 119 = .ok (.putfield 32, 3) := by decide +kernel
theorem dX5_parsePart_122 : decode cX5_parsePart 122 = .ok (.iconst 1, 1) := by decide +kernel
theorem dX5_parsePart_123 : decode cX5_parsePart 123 = .ok (.ireturn, 1) := by decide +kernel
theorem dX5_joins_0 : decode cX5_joins 0 = .ok (.iload_n 0, 1) := by decide +kernel
theorem dX5_joins_1 : decode cX5_joins 1 = .ok (.lookupswitch 57 #[(43, 55), (45, 55), (60, 53), (61, 53), (203, 51)], 51) := by decide +kernel
theorem dX5_joins_52 : decode cX5_joins 52 = .ok (.iconst 0, 1) := by decide +kernel
theorem dX5_joins_53 : decode cX5_joins 53 = .ok (.ireturn, 1) := by decide +kernel
theorem dX5_joins_54 : decode cX5_joins 54 = .ok (.iconst 1, 1) := by decide +kernel
theorem dX5_joins_55 : decode cX5_joins 55 = .ok (.ireturn, 1) := by decide +kernel
theorem dX5_joins_56 : decode cX5_joins 56 = .ok (.iconst 2, 1) := by decide +kernel
theorem dX5_joins_57 : decode cX5_joins 57 = .ok (.ireturn, 1) := by decide +kernel
theorem dX5_joins_58 : decode cX5_joins 58 = .ok (.iconst (-1), 1) := by decide +kernel
theorem dX5_joins_59 : decode cX5_joins 59 = .ok (.ireturn, 1) := by decide +kernel
theorem dX5_token_0 : decode cX5_token 0 = .ok (.aload_n 0, 1) := by decide +kernel
theorem dX5_token_1 : decode cX5_token 1 = .ok (.getfield 32, 3) := by decide +kernel
theorem dX5_token_4 : decode cX5_token 4 = .ok (.aload_n 0, 1) := by decide +kernel
theorem dX5_token_5 : decode cX5_token 5 = .ok (.getfield 12, 3) := by decide +kernel
theorem dX5_token_8 : decode cX5_token 8 = .ok (.getfield 78, 3) := by decide +kernel
theorem dX5_token_11 : decode cX5_token 11 = .ok (.if_icmp .ge 18, 3) := by decide +kernel
theorem dX5_token_14 : decode cX5_token 14 = .ok (.aload_n 0, 1) := by decide +kernel
theorem dX5_token_15 : decode cX5_token 15 = .ok (.getfield 12, 3) := by decide +kernel
theorem dX5_token_18 : decode cX5_token 18 = .ok (.getfield 81, 3) := by decide +kernel
theorem dX5_token_21 : decode cX5_token 21 = .ok (.aload_n 0, 1) := by decide +kernel
theorem dX5_token_22 : decode cX5_token 22 = .ok (.getfield 32, 3) := by decide +kernel
theorem dX5_token_25 : decode cX5_token 25 = .ok (.iaload, 1) := by decide +kernel
theorem dX5_token_26 : decode cX5_token 26 = .ok (.goto 4, 3) := by decide +kernel
theorem dX5_token_29 : decode cX5_token 29 = .ok (.iconst 0, 1) := by decide +kernel
theorem dX5_token_30 : decode cX5_token 30 = .ok (.ireturn, 1) := by decide +kernel
theorem dX5_pass_0 : decode cX5_pass 0 = .ok (.aload_n 0, 1) := by decide +kernel
theorem dX5_pass_1 : decode cX5_pass 1 = .ok (.invokevirtual 39, 3) := by decide +kernel
theorem dX5_pass_4 : decode cX5_pass 4 = .ok (.iload_n 1, 1) := by decide +kernel
theorem dX5_pass_5 : decode cX5_pass 5 = .ok (.if_icmp .eq 9, 3) := by decide +kernel
theorem dX5_pass_8 : decode cX5_pass 8 = .ok (.aload_n 0, 1) := by decide +kernel
theorem dX5_pass_9 : decode cX5_pass 9 = .ok (.iconst 1, 1) := by decide +kernel
theorem dX5_pass_10 : decode cX5_pass 10 = .ok (.invokevirtual 47, 3) := by decide +kernel
theorem dX5_pass_13 : decode cX5_pass 13 = .ok (.ireturn, 1) := by decide +kernel
theorem dX5_pass_14 : decode cX5_pass 14 = .ok (.aload_n 0, 1) := by decide +kernel
theorem dX5_pass_15 : decode cX5_pass 15 = .ok (.dup, 1) := by decide +kernel
theorem dX5_pass_16 : decode cX5_pass 16 = .ok (.getfield 32, 3) := by decide +kernel
theorem dX5_pass_19 : decode cX5_pass 19 = .ok (.iconst 1, 1) := by decide +kernel
theorem dX5_pass_20 : decode cX5_pass 20 = .ok (.iadd, 1) := by decide +kernel
theorem dX5_pass_21 : decode cX5_pass 21 = .ok (.putfield 32, 3) := by decide +kernel
theorem dX5_pass_24 : decode cX5_pass 24 = .ok (.iconst 1, 1) := by decide +kernel
theorem dX5_pass_25 : decode cX5_pass 25 = .ok (.ireturn, 1) := by decide +kernel
theorem dX5_refuse_0 : decode cX5_refuse 0 = .ok (.aload_n 0, 1) := by decide +kernel
theorem dX5_refuse_1 : decode cX5_refuse 1 = .ok (.getfield 32, 3) := by decide +kernel
theorem dX5_refuse_4 : decode cX5_refuse 4 = .ok (.aload_n 0, 1) := by decide +kernel
theorem dX5_refuse_5 : decode cX5_refuse 5 = .ok (.getfield 12, 3) := by decide +kernel
theorem dX5_refuse_8 : decode cX5_refuse 8 = .ok (.getfield 78, 3) := by decide +kernel
theorem dX5_refuse_11 : decode cX5_refuse 11 = .ok (.if_icmp .ge 18, 3) := by decide +kernel
theorem dX5_refuse_14 : decode cX5_refuse 14 = .ok (.aload_n 0, 1) := by decide +kernel
theorem dX5_refuse_15 : decode cX5_refuse 15 = .ok (.getfield 12, 3) := by decide +kernel
theorem dX5_refuse_18 : decode cX5_refuse 18 = .ok (.getfield 84, 3) := by decide +kernel
theorem dX5_refuse_21 : decode cX5_refuse 21 = .ok (.aload_n 0, 1) := by decide +kernel
theorem dX5_refuse_22 : decode cX5_refuse 22 = .ok (.getfield 32, 3) := by decide +kernel
theorem dX5_refuse_25 : decode cX5_refuse 25 = .ok (.iaload, 1) := by decide +kernel
theorem dX5_refuse_26 : decode cX5_refuse 26 = .ok (.goto 4, 3) := by decide +kernel
theorem dX5_refuse_29 : decode cX5_refuse 29 = .ok (.iconst 0, 1) := by decide +kernel
theorem dX5_refuse_30 : decode cX5_refuse 30 = .ok (.istore_n 2, 1) := by decide +kernel
theorem dX5_refuse_31 : decode cX5_refuse 31 = .ok (.aload_n 0, 1) := by decide +kernel
theorem dX5_refuse_32 : decode cX5_refuse 32 = .ok (.iload_n 1, 1) := by decide +kernel
theorem dX5_refuse_33 : decode cX5_refuse 33 = .ok (.bipush 16, 2) := by decide +kernel
theorem dX5_refuse_35 : decode cX5_refuse 35 = .ok (.iload_n 2, 1) := by decide +kernel
theorem dX5_refuse_36 : decode cX5_refuse 36 = .ok (.imul, 1) := by decide +kernel
theorem dX5_refuse_37 : decode cX5_refuse 37 = .ok (.iadd, 1) := by decide +kernel
theorem dX5_refuse_38 : decode cX5_refuse 38 = .ok (.putfield 36, 3) := by decide +kernel
theorem dX5_refuse_41 : decode cX5_refuse 41 = .ok (.iconst 0, 1) := by decide +kernel
theorem dX5_refuse_42 : decode cX5_refuse 42 = .ok (.ireturn, 1) := by decide +kernel
theorem dX6_init_0 : decode cX6_init 0 = .ok (.aload_n 0, 1) := by decide +kernel
theorem dX6_init_1 : decode cX6_init 1 = .ok (.invokespecial 3, 3) := by decide +kernel
theorem dX6_init_4 : decode cX6_init 4 = .ok (.aload_n 0, 1) := by decide +kernel
theorem dX6_init_5 : decode cX6_init 5 = .ok (.sipush 600, 3) := by decide +kernel
theorem dX6_init_8 : decode cX6_init 8 = .ok (.newarray .int, 2) := by decide +kernel
theorem dX6_init_10 : decode cX6_init 10 = .ok (.putfield 9, 3) := by decide +kernel
theorem dX6_init_13 : decode cX6_init 13 = .ok (.aload_n 0, 1) := by decide +kernel
theorem dX6_init_14 : decode cX6_init 14 = .ok (.bipush 16, 2) := by decide +kernel
theorem dX6_init_16 : decode cX6_init 16 = .ok (.newarray .int, 2) := by decide +kernel
theorem dX6_init_18 : decode cX6_init 18 = .ok (.putfield 15, 3) := by decide +kernel
theorem dX6_init_21 : decode cX6_init 21 = .ok (.aload_n 0, 1) := by decide +kernel
theorem dX6_init_22 : decode cX6_init 22 = .ok (.bipush 16, 2) := by decide +kernel
theorem dX6_init_24 : decode cX6_init 24 = .ok (.newarray .int, 2) := by decide +kernel
theorem dX6_init_26 : decode cX6_init 26 = .ok (.putfield 18, 3) := by decide +kernel
theorem dX6_init_29 : decode cX6_init 29 = .ok (.aload_n 0, 1) := by decide +kernel
theorem dX6_init_30 : decode cX6_init 30 = .ok (.bipush 32, 2) := by decide +kernel
theorem dX6_init_32 : decode cX6_init 32 = .ok (.newarray .int, 2) := by decide +kernel
theorem dX6_init_34 : decode cX6_init 34 = .ok (.putfield 21, 3) := by decide +kernel
theorem dX6_init_37 : decode cX6_init 37 = .ok (.return_, 1) := by decide +kernel
theorem dX6_clear_0 : decode cX6_clear 0 = .ok (.aload_n 0, 1) := by decide +kernel
theorem dX6_clear_1 : decode cX6_clear 1 = .ok (.iconst 0, 1) := by decide +kernel
theorem dX6_clear_2 : decode cX6_clear 2 = .ok (.putfield 24, 3) := by decide +kernel
theorem dX6_clear_5 : decode cX6_clear 5 = .ok (.aload_n 0, 1) := by decide +kernel
theorem dX6_clear_6 : decode cX6_clear 6 = .ok (.iconst 0, 1) := by decide +kernel
theorem dX6_clear_7 : decode cX6_clear 7 = .ok (.putfield 28, 3) := by decide +kernel
theorem dX6_clear_10 : decode cX6_clear 10 = .ok (.return_, 1) := by decide +kernel
theorem dX6_add_0 : decode cX6_add 0 = .ok (.aload_n 0, 1) := by decide +kernel
theorem dX6_add_1 : decode cX6_add 1 = .ok (.getfield 24, 3) := by decide +kernel
theorem dX6_add_4 : decode cX6_add 4 = .ok (.sipush 600, 3) := by decide +kernel
theorem dX6_add_7 : decode cX6_add 7 = .ok (.if_icmp .ge 23, 3) := by decide +kernel
theorem dX6_add_10 : decode cX6_add 10 = .ok (.aload_n 0, 1) := by decide +kernel
theorem dX6_add_11 : decode cX6_add 11 = .ok (.getfield 9, 3) := by decide +kernel
theorem dX6_add_14 : decode cX6_add 14 = .ok (.aload_n 0, 1) := by decide +kernel
theorem dX6_add_15 : decode cX6_add 15 = .ok (.getfield 24, 3) := by decide +kernel
theorem dX6_add_18 : decode cX6_add 18 = .ok (.iload_n 1, 1) := by decide +kernel
theorem dX6_add_19 : decode cX6_add 19 = .ok (.iastore, 1) := by decide +kernel
theorem dX6_add_20 : decode cX6_add 20 = .ok (.aload_n 0, 1) := by decide +kernel
theorem dX6_add_21 : decode cX6_add 21 = .ok (.dup, 1) := by decide +kernel
theorem dX6_add_22 : decode cX6_add 22 = .ok (.getfield 24, 3) := by decide +kernel
theorem dX6_add_25 : decode cX6_add 25 = .ok (.iconst 1, 1) := by decide +kernel
theorem dX6_add_26 : decode cX6_add 26 = .ok (.iadd, 1) := by decide +kernel
theorem dX6_add_27 : decode cX6_add 27 = .ok (.putfield 24, 3) := by decide +kernel
theorem dX6_add_30 : decode cX6_add 30 = .ok (.return_, 1) := by decide +kernel
theorem dX6_endLine_0 : decode cX6_endLine 0 = .ok (.aload_n 0, 1) := by decide +kernel
theorem dX6_endLine_1 : decode cX6_endLine 1 = .ok (.getfield 28, 3) := by decide +kernel
theorem dX6_endLine_4 : decode cX6_endLine 4 = .ok (.bipush 16, 2) := by decide +kernel
theorem dX6_endLine_6 : decode cX6_endLine 6 = .ok (.if_icmp .ge 36, 3) := by decide +kernel
theorem dX6_endLine_9 : decode cX6_endLine 9 = .ok (.aload_n 0, 1) := by decide +kernel
theorem dX6_endLine_10 : decode cX6_endLine 10 = .ok (.getfield 15, 3) := by decide +kernel
theorem dX6_endLine_13 : decode cX6_endLine 13 = .ok (.aload_n 0, 1) := by decide +kernel
theorem dX6_endLine_14 : decode cX6_endLine 14 = .ok (.getfield 28, 3) := by decide +kernel
theorem dX6_endLine_17 : decode cX6_endLine 17 = .ok (.aload_n 0, 1) := by decide +kernel
theorem dX6_endLine_18 : decode cX6_endLine 18 = .ok (.getfield 24, 3) := by decide +kernel
theorem dX6_endLine_21 : decode cX6_endLine 21 = .ok (.iastore, 1) := by decide +kernel
theorem dX6_endLine_22 : decode cX6_endLine 22 = .ok (.aload_n 0, 1) := by decide +kernel
theorem dX6_endLine_23 : decode cX6_endLine 23 = .ok (.getfield 18, 3) := by decide +kernel
theorem dX6_endLine_26 : decode cX6_endLine 26 = .ok (.aload_n 0, 1) := by decide +kernel
theorem dX6_endLine_27 : decode cX6_endLine 27 = .ok (.getfield 28, 3) := by decide +kernel
theorem dX6_endLine_30 : decode cX6_endLine 30 = .ok (.iload_n 1, 1) := by decide +kernel
theorem dX6_endLine_31 : decode cX6_endLine 31 = .ok (.iastore, 1) := by decide +kernel
theorem dX6_endLine_32 : decode cX6_endLine 32 = .ok (.aload_n 0, 1) := by decide +kernel
theorem dX6_endLine_33 : decode cX6_endLine 33 = .ok (.dup, 1) := by decide +kernel
theorem dX6_endLine_34 : decode cX6_endLine 34 = .ok (.getfield 28, 3) := by decide +kernel
theorem dX6_endLine_37 : decode cX6_endLine 37 = .ok (.iconst 1, 1) := by decide +kernel
theorem dX6_endLine_38 : decode cX6_endLine 38 = .ok (.iadd, 1) := by decide +kernel
theorem dX6_endLine_39 : decode cX6_endLine 39 = .ok (.putfield 28, 3) := by decide +kernel
theorem dX6_endLine_42 : decode cX6_endLine 42 = .ok (.return_, 1) := by decide +kernel
theorem dX6_copy_0 : decode cX6_copy 0 = .ok (.aload_n 0, 1) := by decide +kernel
theorem dX6_copy_1 : decode cX6_copy 1 = .ok (.aload_n 1, 1) := by decide +kernel
theorem dX6_copy_2 : decode cX6_copy 2 = .ok (.getfield 24, 3) := by decide +kernel
theorem dX6_copy_5 : decode cX6_copy 5 = .ok (.putfield 24, 3) := by decide +kernel
theorem dX6_copy_8 : decode cX6_copy 8 = .ok (.aload_n 0, 1) := by decide +kernel
theorem dX6_copy_9 : decode cX6_copy 9 = .ok (.aload_n 1, 1) := by decide +kernel
theorem dX6_copy_10 : decode cX6_copy 10 = .ok (.getfield 28, 3) := by decide +kernel
theorem dX6_copy_13 : decode cX6_copy 13 = .ok (.putfield 28, 3) := by decide +kernel
theorem dX6_copy_16 : decode cX6_copy 16 = .ok (.aload_n 1, 1) := by decide +kernel
theorem dX6_copy_17 : decode cX6_copy 17 = .ok (.getfield 9, 3) := by decide +kernel
theorem dX6_copy_20 : decode cX6_copy 20 = .ok (.iconst 0, 1) := by decide +kernel
theorem dX6_copy_21 : decode cX6_copy 21 = .ok (.aload_n 0, 1) := by decide +kernel
theorem dX6_copy_22 : decode cX6_copy 22 = .ok (.getfield 9, 3) := by decide +kernel
theorem dX6_copy_25 : decode cX6_copy 25 = .ok (.iconst 0, 1) := by decide +kernel
theorem dX6_copy_26 : decode cX6_copy 26 = .ok (.aload_n 0, 1) := by decide +kernel
theorem dX6_copy_27 : decode cX6_copy 27 = .ok (.getfield 24, 3) := by decide +kernel
theorem dX6_copy_30 : decode cX6_copy 30 = .ok (.invokestatic 31, 3) := by decide +kernel
theorem dX6_copy_33 : decode cX6_copy 33 = .ok (.aload_n 1, 1) := by decide +kernel
theorem dX6_copy_34 : decode cX6_copy 34 = .ok (.getfield 15, 3) := by decide +kernel
theorem dX6_copy_37 : decode cX6_copy 37 = .ok (.iconst 0, 1) := by decide +kernel
theorem dX6_copy_38 : decode cX6_copy 38 = .ok (.aload_n 0, 1) := by decide +kernel
theorem dX6_copy_39 : decode cX6_copy 39 = .ok (.getfield 15, 3) := by decide +kernel
theorem dX6_copy_42 : decode cX6_copy 42 = .ok (.iconst 0, 1) := by decide +kernel
theorem dX6_copy_43 : decode cX6_copy 43 = .ok (.aload_n 0, 1) := by decide +kernel
theorem dX6_copy_44 : decode cX6_copy 44 = .ok (.getfield 28, 3) := by decide +kernel
theorem dX6_copy_47 : decode cX6_copy 47 = .ok (.invokestatic 31, 3) := by decide +kernel
theorem dX6_copy_50 : decode cX6_copy 50 = .ok (.aload_n 1, 1) := by decide +kernel
theorem dX6_copy_51 : decode cX6_copy 51 = .ok (.getfield 18, 3) := by decide +kernel
theorem dX6_copy_54 : decode cX6_copy 54 = .ok (.iconst 0, 1) := by decide +kernel
theorem dX6_copy_55 : decode cX6_copy 55 = .ok (.aload_n 0, 1) := by decide +kernel
theorem dX6_copy_56 : decode cX6_copy 56 = .ok (.getfield 18, 3) := by decide +kernel
theorem dX6_copy_59 : decode cX6_copy 59 = .ok (.iconst 0, 1) := by decide +kernel
theorem dX6_copy_60 : decode cX6_copy 60 = .ok (.aload_n 0, 1) := by decide +kernel
theorem dX6_copy_61 : decode cX6_copy 61 = .ok (.getfield 28, 3) := by decide +kernel
theorem dX6_copy_64 : decode cX6_copy 64 = .ok (.invokestatic 31, 3) := by decide +kernel
theorem dX6_copy_67 : decode cX6_copy 67 = .ok (.return_, 1) := by decide +kernel
theorem dX6_starsFor_0 : decode cX6_starsFor 0 = .ok (.iconst 0, 1) := by decide +kernel
theorem dX6_starsFor_1 : decode cX6_starsFor 1 = .ok (.istore_n 2, 1) := by decide +kernel
theorem dX6_starsFor_2 : decode cX6_starsFor 2 = .ok (.iconst 0, 1) := by decide +kernel
theorem dX6_starsFor_3 : decode cX6_starsFor 3 = .ok (.istore_n 3, 1) := by decide +kernel
theorem dX6_starsFor_4 : decode cX6_starsFor 4 = .ok (.iload_n 3, 1) := by decide +kernel
theorem dX6_starsFor_5 : decode cX6_starsFor 5 = .ok (.aload_n 0, 1) := by decide +kernel
theorem dX6_starsFor_6 : decode cX6_starsFor 6 = .ok (.getfield 28, 3) := by decide +kernel
theorem dX6_starsFor_9 : decode cX6_starsFor 9 = .ok (.if_icmp .ge 38, 3) := by decide +kernel
theorem dX6_starsFor_12 : decode cX6_starsFor 12 = .ok (.aload_n 0, 1) := by decide +kernel
theorem dX6_starsFor_13 : decode cX6_starsFor 13 = .ok (.iload_n 2, 1) := by decide +kernel
theorem dX6_starsFor_14 : decode cX6_starsFor 14 = .ok (.aload_n 0, 1) := by decide +kernel
theorem dX6_starsFor_15 : decode cX6_starsFor 15 = .ok (.getfield 15, 3) := by decide +kernel
theorem dX6_starsFor_18 : decode cX6_starsFor 18 = .ok (.iload_n 3, 1) := by decide +kernel
theorem dX6_starsFor_19 : decode cX6_starsFor 19 = .ok (.iaload, 1) := by decide +kernel
theorem dX6_starsFor_20 : decode cX6_starsFor 20 = .ok (.aload_n 1, 1) := by decide +kernel
theorem dX6_starsFor_21 : decode cX6_starsFor 21 = .ok (.invokevirtual 37, 3) := by decide +kernel
theorem dX6_starsFor_24 : decode cX6_starsFor 24 = .ok (.ifCond .eq 10, 3) := by decide +kernel
theorem dX6_starsFor_27 : decode cX6_starsFor 27 = .ok (.aload_n 0, 1) := by decide +kernel
theorem dX6_starsFor_28 : decode cX6_starsFor 28 = .ok (.getfield 18, 3) := by decide +kernel
theorem dX6_starsFor_31 : decode cX6_starsFor 31 = .ok (.iload_n 3, 1) := by decide +kernel
theorem dX6_starsFor_32 : decode cX6_starsFor 32 = .ok (.iaload, 1) := by decide +kernel
theorem dX6_starsFor_33 : decode cX6_starsFor 33 = .ok (.ireturn, 1) := by decide +kernel
theorem dX6_starsFor_34 : decode cX6_starsFor 34 = .ok (.aload_n 0, 1) := by decide +kernel
theorem dX6_starsFor_35 : decode cX6_starsFor 35 = .ok (.getfield 15, 3) := by decide +kernel
theorem dX6_starsFor_38 : decode cX6_starsFor 38 = .ok (.iload_n 3, 1) := by decide +kernel
theorem dX6_starsFor_39 : decode cX6_starsFor 39 = .ok (.iaload, 1) := by decide +kernel
theorem dX6_starsFor_40 : decode cX6_starsFor 40 = .ok (.istore_n 2, 1) := by decide +kernel
theorem dX6_starsFor_41 : decode cX6_starsFor 41 = .ok (.iinc 3 1, 3) := by decide +kernel
theorem dX6_starsFor_44 : decode cX6_starsFor 44 = .ok (.goto (-40), 3) := by decide +kernel
theorem dX6_starsFor_47 : decode cX6_starsFor 47 = .ok (.iconst 0, 1) := by decide +kernel
theorem dX6_starsFor_48 : decode cX6_starsFor 48 = .ok (.ireturn, 1) := by decide +kernel
theorem dX6_valueOf_0 : decode cX6_valueOf 0 = .ok (.iconst 0, 1) := by decide +kernel
theorem dX6_valueOf_1 : decode cX6_valueOf 1 = .ok (.istore 4, 2) := by decide +kernel
theorem dX6_valueOf_3 : decode cX6_valueOf 3 = .ok (.iload_n 1, 1) := by decide +kernel
theorem dX6_valueOf_4 : decode cX6_valueOf 4 = .ok (.istore 5, 2) := by decide +kernel
theorem dX6_valueOf_6 : decode cX6_valueOf 6 = .ok (.iload 5, 2) := by decide +kernel
theorem dX6_valueOf_8 : decode cX6_valueOf 8 = .ok (.iload_n 2, 1) := by decide +kernel
theorem dX6_valueOf_9 : decode cX6_valueOf 9 = .ok (.if_icmp .ge 111, 3) := by decide +kernel
theorem dX6_valueOf_12 : decode cX6_valueOf 12 = .ok (.aload_n 0, 1) := by decide +kernel
theorem dX6_valueOf_13 : decode cX6_valueOf 13 = .ok (.getfield 9, 3) := by decide +kernel
theorem dX6_valueOf_16 : decode cX6_valueOf 16 = .ok (.iload 5, 2) := by decide +kernel
theorem dX6_valueOf_18 : decode cX6_valueOf 18 = .ok (.iaload, 1) := by decide +kernel
theorem dX6_valueOf_19 : decode cX6_valueOf 19 = .ok (.istore 6, 2) := by decide +kernel
theorem dX6_valueOf_21 : decode cX6_valueOf 21 = .ok (.iload 6, 2) := by decide +kernel
theorem dX6_valueOf_23 : decode cX6_valueOf 23 = .ok (.ifCond .ge 12, 3) := by decide +kernel
theorem dX6_valueOf_26 : decode cX6_valueOf 26 = .ok (.iload 6, 2) := by decide +kernel
theorem dX6_valueOf_28 : decode cX6_valueOf 28 = .ok (.ineg, 1) := by decide +kernel
theorem dX6_valueOf_29 : decode cX6_valueOf 29 = .ok (.invokestatic 41, 3) := by decide +kernel
theorem dX6_valueOf_32 : decode cX6_valueOf 32 = .ok (.ifCond .eq 42, 3) := by decide +kernel
theorem dX6_valueOf_35 : decode cX6_valueOf 35 = .ok (.iload 4, 2) := by decide +kernel
theorem dX6_valueOf_37 : decode cX6_valueOf 37 = .ok (.bipush 32, 2) := by decide +kernel
theorem dX6_valueOf_39 : decode cX6_valueOf 39 = .ok (.if_icmp .ge 75, 3) := by decide +kernel
theorem dX6_valueOf_42 : decode cX6_valueOf 42 = .ok (.aload_n 0, 1) := by decide +kernel
theorem dX6_valueOf_43 : decode cX6_valueOf 43 = .ok (.getfield 21, 3) := by decide +kernel
theorem dX6_valueOf_46 : decode cX6_valueOf 46 = .ok (.iload 4, 2) := by decide +kernel
theorem dX6_valueOf_48 : decode cX6_valueOf 48 = .ok (.iload 6, 2) := by decide +kernel
theorem dX6_valueOf_50 : decode cX6_valueOf 50 = .ok (.ifCond .lt 8, 3) := by decide +kernel
theorem dX6_valueOf_53 : decode cX6_valueOf 53 = .ok (.iload 6, 2) := by decide +kernel
theorem dX6_valueOf_55 : decode cX6_valueOf 55 = .ok (.goto 12, 3) := by decide +kernel
theorem dX6_valueOf_58 : decode cX6_valueOf 58 = .ok (.aload_n 3, 1) := by decide +kernel
theorem dX6_valueOf_59 : decode cX6_valueOf 59 = .ok (.iload 6, 2) := by decide +kernel
theorem dX6_valueOf_61 : decode cX6_valueOf 61 = .ok (.ineg, 1) := by decide +kernel
theorem dX6_valueOf_62 : decode cX6_valueOf 62 = .ok (.sipush 204, 3) := by decide +kernel
theorem dX6_valueOf_65 : decode cX6_valueOf 65 = .ok (.isub, 1) := by decide +kernel
theorem dX6_valueOf_66 : decode cX6_valueOf 66 = .ok (.iaload, 1) := by decide +kernel
theorem dX6_valueOf_67 : decode cX6_valueOf 67 = .ok (.iastore, 1) := by decide +kernel
theorem dX6_valueOf_68 : decode cX6_valueOf 68 = .ok (.iinc 4 1, 3) := by decide +kernel
theorem dX6_valueOf_71 : decode cX6_valueOf 71 = .ok (.goto 43, 3) := by decide +kernel
theorem dX6_valueOf_74 : decode cX6_valueOf 74 = .ok (.iload 4, 2) := by decide +kernel
theorem dX6_valueOf_76 : decode cX6_valueOf 76 = .ok (.iconst 2, 1) := by decide +kernel
theorem dX6_valueOf_77 : decode cX6_valueOf 77 = .ok (.if_icmp .lt 37, 3) := by decide +kernel
theorem dX6_valueOf_80 : decode cX6_valueOf 80 = .ok (.iinc 4 (-1), 3) := by decide +kernel
theorem dX6_valueOf_83 : decode cX6_valueOf 83 = .ok (.aload_n 0, 1) := by decide +kernel
theorem dX6_valueOf_84 : decode cX6_valueOf 84 = .ok (.getfield 21, 3) := by decide +kernel
theorem dX6_valueOf_87 : decode cX6_valueOf 87 = .ok (.iload 4, 2) := by decide +kernel
theorem dX6_valueOf_89 : decode cX6_valueOf 89 = .ok (.iconst 1, 1) := by decide +kernel
theorem dX6_valueOf_90 : decode cX6_valueOf 90 = .ok (.isub, 1) := by decide +kernel
theorem dX6_valueOf_91 : decode cX6_valueOf 91 = .ok (.iload 6, 2) := by decide +kernel
theorem dX6_valueOf_93 : decode cX6_valueOf 93 = .ok (.ineg, 1) := by decide +kernel
theorem dX6_valueOf_94 : decode cX6_valueOf 94 = .ok (.aload_n 0, 1) := by decide +kernel
theorem dX6_valueOf_95 : decode cX6_valueOf 95 = .ok (.getfield 21, 3) := by decide +kernel
theorem dX6_valueOf_98 : decode cX6_valueOf 98 = .ok (.iload 4, 2) := by decide +kernel
theorem dX6_valueOf_100 : decode cX6_valueOf 100 = .ok (.iconst 1, 1) := by decide +kernel
theorem dX6_valueOf_101 : decode cX6_valueOf 101 = .ok (.isub, 1) := by decide +kernel
theorem dX6_valueOf_102 : decode cX6_valueOf 102 = .ok (.iaload, 1) := by decide +kernel
theorem dX6_valueOf_103 : decode cX6_valueOf 103 = .ok (.aload_n 0, 1) := by decide +kernel
theorem dX6_valueOf_104 : decode cX6_valueOf 104 = .ok (.getfield 21, 3) := by decide +kernel
theorem dX6_valueOf_107 : decode cX6_valueOf 107 = .ok (.iload 4, 2) := by decide +kernel
theorem dX6_valueOf_109 : decode cX6_valueOf 109 = .ok (.iaload, 1) := by decide +kernel
theorem dX6_valueOf_110 : decode cX6_valueOf 110 = .ok (.invokestatic 45, 3) := by decide +kernel
theorem dX6_valueOf_113 : decode cX6_valueOf 113 = .ok (.iastore, 1) := by decide +kernel
theorem dX6_valueOf_114 : decode cX6_valueOf 114 = .ok (.iinc 5 1, 3) := by decide +kernel
theorem dX6_valueOf_117 : decode cX6_valueOf 117 = .ok (.goto (-111), 3) := by decide +kernel
theorem dX6_valueOf_120 : decode cX6_valueOf 120 = .ok (.iload 4, 2) := by decide +kernel
theorem dX6_valueOf_122 : decode cX6_valueOf 122 = .ok (.ifCond .ne 7, 3) := by decide +kernel
theorem dX6_valueOf_125 : decode cX6_valueOf 125 = .ok (.iconst 0, 1) := by decide +kernel
theorem dX6_valueOf_126 : decode cX6_valueOf 126 = .ok (.goto 12, 3) := by decide +kernel
theorem dX6_valueOf_129 : decode cX6_valueOf 129 = .ok (.aload_n 0, 1) := by decide +kernel
theorem dX6_valueOf_130 : decode cX6_valueOf 130 = .ok (.getfield 21, 3) := by decide +kernel
theorem dX6_valueOf_133 : decode cX6_valueOf 133 = .ok (.iload 4, 2) := by decide +kernel
theorem dX6_valueOf_135 : decode cX6_valueOf 135 = .ok (.iconst 1, 1) := by decide +kernel
theorem dX6_valueOf_136 : decode cX6_valueOf 136 = .ok (.isub, 1) := by decide +kernel
theorem dX6_valueOf_137 : decode cX6_valueOf 137 = .ok (.iaload, 1) := by decide +kernel
theorem dX6_valueOf_138 : decode cX6_valueOf 138 = .ok (.ireturn, 1) := by decide +kernel
theorem dX6_joined_0 : decode cX6_joined 0 = .ok (.iload_n 0, 1) := by decide +kernel
theorem dX6_joined_1 : decode cX6_joined 1 = .ok (.lookupswitch 73 #[(43, 43), (45, 47), (60, 51), (61, 62)], 43) := by decide +kernel
theorem dX6_joined_44 : decode cX6_joined 44 = .ok (.iload_n 1, 1) := by decide +kernel
theorem dX6_joined_45 : decode cX6_joined 45 = .ok (.iload_n 2, 1) := by decide +kernel
theorem dX6_joined_46 : decode cX6_joined 46 = .ok (.iadd, 1) := by decide +kernel
theorem dX6_joined_47 : decode cX6_joined 47 = .ok (.ireturn, 1) := by decide +kernel
theorem dX6_joined_48 : decode cX6_joined 48 = .ok (.iload_n 1, 1) := by decide +kernel
theorem dX6_joined_49 : decode cX6_joined 49 = .ok (.iload_n 2, 1) := by decide +kernel
theorem dX6_joined_50 : decode cX6_joined 50 = .ok (.isub, 1) := by decide +kernel
theorem dX6_joined_51 : decode cX6_joined 51 = .ok (.ireturn, 1) := by decide +kernel
theorem dX6_joined_52 : decode cX6_joined 52 = .ok (.iload_n 1, 1) := by decide +kernel
theorem dX6_joined_53 : decode cX6_joined 53 = .ok (.iload_n 2, 1) := by decide +kernel
theorem dX6_joined_54 : decode cX6_joined 54 = .ok (.if_icmp .ge 7, 3) := by decide +kernel
theorem dX6_joined_57 : decode cX6_joined 57 = .ok (.iconst 1, 1) := by decide +kernel
theorem dX6_joined_58 : decode cX6_joined 58 = .ok (.goto 4, 3) := by decide +kernel
theorem dX6_joined_61 : decode cX6_joined 61 = .ok (.iconst 0, 1) := by decide +kernel
theorem dX6_joined_62 : decode cX6_joined 62 = .ok (.ireturn, 1) := by decide +kernel
theorem dX6_joined_63 : decode cX6_joined 63 = .ok (.iload_n 1, 1) := by decide +kernel
theorem dX6_joined_64 : decode cX6_joined 64 = .ok (.iload_n 2, 1) := by decide +kernel
theorem dX6_joined_65 : decode cX6_joined 65 = .ok (.if_icmp .ne 7, 3) := by decide +kernel
theorem dX6_joined_68 : decode cX6_joined 68 = .ok (.iconst 1, 1) := by decide +kernel
theorem dX6_joined_69 : decode cX6_joined 69 = .ok (.goto 4, 3) := by decide +kernel
theorem dX6_joined_72 : decode cX6_joined 72 = .ok (.iconst 0, 1) := by decide +kernel
theorem dX6_joined_73 : decode cX6_joined 73 = .ok (.ireturn, 1) := by decide +kernel
theorem dX6_joined_74 : decode cX6_joined 74 = .ok (.iload_n 1, 1) := by decide +kernel
theorem dX6_joined_75 : decode cX6_joined 75 = .ok (.ifCond .eq 11, 3) := by decide +kernel
theorem dX6_joined_78 : decode cX6_joined 78 = .ok (.iload_n 2, 1) := by decide +kernel
theorem dX6_joined_79 : decode cX6_joined 79 = .ok (.ifCond .eq 7, 3) := by decide +kernel
theorem dX6_joined_82 : decode cX6_joined 82 = .ok (.iconst 1, 1) := by decide +kernel
theorem dX6_joined_83 : decode cX6_joined 83 = .ok (.goto 4, 3) := by decide +kernel
theorem dX6_joined_86 : decode cX6_joined 86 = .ok (.iconst 0, 1) := by decide +kernel
theorem dX6_joined_87 : decode cX6_joined 87 = .ok (.ireturn, 1) := by decide +kernel
theorem dX7_init_0 : decode cX7_init 0 = .ok (.aload_n 0, 1) := by decide +kernel
theorem dX7_init_1 : decode cX7_init 1 = .ok (.invokespecial 3, 3) := by decide +kernel
theorem dX7_init_4 : decode cX7_init 4 = .ok (.aload_n 0, 1) := by decide +kernel
theorem dX7_init_5 : decode cX7_init 5 = .ok (.sipush 600, 3) := by decide +kernel
theorem dX7_init_8 : decode cX7_init 8 = .ok (.newarray .byte, 2) := by decide +kernel
theorem dX7_init_10 : decode cX7_init 10 = .ok (.putfield 9, 3) := by decide +kernel
theorem dX7_init_13 : decode cX7_init 13 = .ok (.return_, 1) := by decide +kernel
theorem dX7_appendBytes_0 : decode cX7_appendBytes 0 = .ok (.bipush 56, 2) := by decide +kernel
theorem dX7_appendBytes_2 : decode cX7_appendBytes 2 = .ok (.istore_n 3, 1) := by decide +kernel
theorem dX7_appendBytes_3 : decode cX7_appendBytes 3 = .ok (.iload_n 3, 1) := by decide +kernel
theorem dX7_appendBytes_4 : decode cX7_appendBytes 4 = .ok (.ifCond .lt 21, 3) := by decide +kernel
theorem dX7_appendBytes_7 : decode cX7_appendBytes 7 = .ok (.aload_n 0, 1) := by decide +kernel
theorem dX7_appendBytes_8 : decode cX7_appendBytes 8 = .ok (.lload_n 1, 1) := by decide +kernel
theorem dX7_appendBytes_9 : decode cX7_appendBytes 9 = .ok (.iload_n 3, 1) := by decide +kernel
theorem dX7_appendBytes_10 : decode cX7_appendBytes 10 = .ok (.lushr, 1) := by decide +kernel
theorem dX7_appendBytes_11 : decode cX7_appendBytes 11 = .ok (.ldc2_w 15, 3) := by decide +kernel
theorem dX7_appendBytes_14 : decode cX7_appendBytes 14 = .ok (.land, 1) := by decide +kernel
theorem dX7_appendBytes_15 : decode cX7_appendBytes 15 = .ok (.l2i, 1) := by decide +kernel
theorem dX7_appendBytes_16 : decode cX7_appendBytes 16 = .ok (.invokevirtual 17, 3) := by decide +kernel
theorem dX7_appendBytes_19 : decode cX7_appendBytes 19 = .ok (.iinc 3 (-8), 3) := by decide +kernel
theorem dX7_appendBytes_22 : decode cX7_appendBytes 22 = .ok (.goto (-19), 3) := by decide +kernel
theorem dX7_appendBytes_25 : decode cX7_appendBytes 25 = .ok (.return_, 1) := by decide +kernel
theorem dX7_append_0 : decode cX7_append 0 = .ok (.iload_n 1, 1) := by decide +kernel
theorem dX7_append_1 : decode cX7_append 1 = .ok (.bipush 10, 2) := by decide +kernel
theorem dX7_append_3 : decode cX7_append 3 = .ok (.if_icmp .eq 15, 3) := by decide +kernel
theorem dX7_append_6 : decode cX7_append 6 = .ok (.iload_n 1, 1) := by decide +kernel
theorem dX7_append_7 : decode cX7_append 7 = .ok (.bipush 32, 2) := by decide +kernel
theorem dX7_append_9 : decode cX7_append 9 = .ok (.if_icmp .lt 13, 3) := by decide +kernel
theorem dX7_append_12 : decode cX7_append 12 = .ok (.iload_n 1, 1) := by decide +kernel
theorem dX7_append_13 : decode cX7_append 13 = .ok (.bipush 126, 2) := by decide +kernel
theorem dX7_append_15 : decode cX7_append 15 = .ok (.if_icmp .gt 7, 3) := by decide +kernel
theorem dX7_append_18 : decode cX7_append 18 = .ok (.iconst 1, 1) := by decide +kernel
theorem dX7_append_19 : decode cX7_append 19 = .ok (.goto 4, 3) := by decide +kernel
theorem dX7_append_22 : decode cX7_append 22 = .ok (.iconst 0, 1) := by decide +kernel
theorem dX7_append_23 : decode cX7_append 23 = .ok (.istore_n 2, 1) := by decide +kernel
theorem dX7_append_24 : decode cX7_append 24 = .ok (.iload_n 2, 1) := by decide +kernel
theorem dX7_append_25 : decode cX7_append 25 = .ok (.ifCond .eq 34, 3) := by decide +kernel
theorem dX7_append_28 : decode cX7_append 28 = .ok (.aload_n 0, 1) := by decide +kernel
theorem dX7_append_29 : decode cX7_append 29 = .ok (.getfield 21, 3) := by decide +kernel
theorem dX7_append_32 : decode cX7_append 32 = .ok (.sipush 600, 3) := by decide +kernel
theorem dX7_append_35 : decode cX7_append 35 = .ok (.if_icmp .ge 24, 3) := by decide +kernel
theorem dX7_append_38 : decode cX7_append 38 = .ok (.aload_n 0, 1) := by decide +kernel
theorem dX7_append_39 : decode cX7_append 39 = .ok (.getfield 9, 3) := by decide +kernel
theorem dX7_append_42 : decode cX7_append 42 = .ok (.aload_n 0, 1) := by decide +kernel
theorem dX7_append_43 : decode cX7_append 43 = .ok (.getfield 21, 3) := by decide +kernel
theorem dX7_append_46 : decode cX7_append 46 = .ok (.iload_n 1, 1) := by decide +kernel
theorem dX7_append_47 : decode cX7_append 47 = .ok (.i2b, 1) := by decide +kernel
theorem dX7_append_48 : decode cX7_append 48 = .ok (.bastore, 1) := by decide +kernel
theorem dX7_append_49 : decode cX7_append 49 = .ok (.aload_n 0, 1) := by decide +kernel
theorem dX7_append_50 : decode cX7_append 50 = .ok (.dup, 1) := by decide +kernel
theorem dX7_append_51 : decode cX7_append 51 = .ok (.getfield 21, 3) := by decide +kernel
theorem dX7_append_54 : decode cX7_append 54 = .ok (.iconst 1, 1) := by decide +kernel
theorem dX7_append_55 : decode cX7_append 55 = .ok (.iadd, 1) := by decide +kernel
theorem dX7_append_56 : decode cX7_append 56 = .ok (.putfield 21, 3) := by decide +kernel
theorem dX7_append_59 : decode cX7_append 59 = .ok (.return_, 1) := by decide +kernel
theorem dX7_isBlank_0 : decode cX7_isBlank 0 = .ok (.iload_n 1, 1) := by decide +kernel
theorem dX7_isBlank_1 : decode cX7_isBlank 1 = .ok (.aload_n 0, 1) := by decide +kernel
theorem dX7_isBlank_2 : decode cX7_isBlank 2 = .ok (.getfield 21, 3) := by decide +kernel
theorem dX7_isBlank_5 : decode cX7_isBlank 5 = .ok (.iconst 1, 1) := by decide +kernel
theorem dX7_isBlank_6 : decode cX7_isBlank 6 = .ok (.isub, 1) := by decide +kernel
theorem dX7_isBlank_7 : decode cX7_isBlank 7 = .ok (.invokestatic 25, 3) := by decide +kernel
theorem dX7_isBlank_10 : decode cX7_isBlank 10 = .ok (.ifCond .eq 29, 3) := by decide +kernel
theorem dX7_isBlank_13 : decode cX7_isBlank 13 = .ok (.aload_n 0, 1) := by decide +kernel
theorem dX7_isBlank_14 : decode cX7_isBlank 14 = .ok (.getfield 9, 3) := by decide +kernel
theorem dX7_isBlank_17 : decode cX7_isBlank 17 = .ok (.iload_n 1, 1) := by decide +kernel
theorem dX7_isBlank_18 : decode cX7_isBlank 18 = .ok (.baload, 1) := by decide +kernel
theorem dX7_isBlank_19 : decode cX7_isBlank 19 = .ok (.bipush 10, 2) := by decide +kernel
theorem dX7_isBlank_21 : decode cX7_isBlank 21 = .ok (.if_icmp .eq 14, 3) := by decide +kernel
theorem dX7_isBlank_24 : decode cX7_isBlank 24 = .ok (.aload_n 0, 1) := by decide +kernel
theorem dX7_isBlank_25 : decode cX7_isBlank 25 = .ok (.getfield 9, 3) := by decide +kernel
theorem dX7_isBlank_28 : decode cX7_isBlank 28 = .ok (.iload_n 1, 1) := by decide +kernel
theorem dX7_isBlank_29 : decode cX7_isBlank 29 = .ok (.baload, 1) := by decide +kernel
theorem dX7_isBlank_30 : decode cX7_isBlank 30 = .ok (.bipush 32, 2) := by decide +kernel
theorem dX7_isBlank_32 : decode cX7_isBlank 32 = .ok (.if_icmp .ne 7, 3) := by decide +kernel
theorem dX7_isBlank_35 : decode cX7_isBlank 35 = .ok (.iconst 1, 1) := by decide +kernel
theorem dX7_isBlank_36 : decode cX7_isBlank 36 = .ok (.goto 4, 3) := by decide +kernel
theorem dX7_isBlank_39 : decode cX7_isBlank 39 = .ok (.iconst 0, 1) := by decide +kernel
theorem dX7_isBlank_40 : decode cX7_isBlank 40 = .ok (.ireturn, 1) := by decide +kernel
theorem dX7_isLetter_0 : decode cX7_isLetter 0 = .ok (.iload_n 1, 1) := by decide +kernel
theorem dX7_isLetter_1 : decode cX7_isLetter 1 = .ok (.aload_n 0, 1) := by decide +kernel
theorem dX7_isLetter_2 : decode cX7_isLetter 2 = .ok (.getfield 21, 3) := by decide +kernel
theorem dX7_isLetter_5 : decode cX7_isLetter 5 = .ok (.iconst 1, 1) := by decide +kernel
theorem dX7_isLetter_6 : decode cX7_isLetter 6 = .ok (.isub, 1) := by decide +kernel
theorem dX7_isLetter_7 : decode cX7_isLetter 7 = .ok (.invokestatic 25, 3) := by decide +kernel
theorem dX7_isLetter_10 : decode cX7_isLetter 10 = .ok (.ifCond .eq 29, 3) := by decide +kernel
theorem dX7_isLetter_13 : decode cX7_isLetter 13 = .ok (.aload_n 0, 1) := by decide +kernel
theorem dX7_isLetter_14 : decode cX7_isLetter 14 = .ok (.getfield 9, 3) := by decide +kernel
theorem dX7_isLetter_17 : decode cX7_isLetter 17 = .ok (.iload_n 1, 1) := by decide +kernel
theorem dX7_isLetter_18 : decode cX7_isLetter 18 = .ok (.baload, 1) := by decide +kernel
theorem dX7_isLetter_19 : decode cX7_isLetter 19 = .ok (.bipush 97, 2) := by decide +kernel
theorem dX7_isLetter_21 : decode cX7_isLetter 21 = .ok (.if_icmp .lt 18, 3) := by decide +kernel
theorem dX7_isLetter_24 : decode cX7_isLetter 24 = .ok (.aload_n 0, 1) := by decide +kernel
theorem dX7_isLetter_25 : decode cX7_isLetter 25 = .ok (.getfield 9, 3) := by decide +kernel
theorem dX7_isLetter_28 : decode cX7_isLetter 28 = .ok (.iload_n 1, 1) := by decide +kernel
theorem dX7_isLetter_29 : decode cX7_isLetter 29 = .ok (.baload, 1) := by decide +kernel
theorem dX7_isLetter_30 : decode cX7_isLetter 30 = .ok (.bipush 122, 2) := by decide +kernel
theorem dX7_isLetter_32 : decode cX7_isLetter 32 = .ok (.if_icmp .gt 7, 3) := by decide +kernel
theorem dX7_isLetter_35 : decode cX7_isLetter 35 = .ok (.iconst 1, 1) := by decide +kernel
theorem dX7_isLetter_36 : decode cX7_isLetter 36 = .ok (.goto 4, 3) := by decide +kernel
theorem dX7_isLetter_39 : decode cX7_isLetter 39 = .ok (.iconst 0, 1) := by decide +kernel
theorem dX7_isLetter_40 : decode cX7_isLetter 40 = .ok (.ireturn, 1) := by decide +kernel
theorem dX7_isDigit_0 : decode cX7_isDigit 0 = .ok (.iload_n 1, 1) := by decide +kernel
theorem dX7_isDigit_1 : decode cX7_isDigit 1 = .ok (.aload_n 0, 1) := by decide +kernel
theorem dX7_isDigit_2 : decode cX7_isDigit 2 = .ok (.getfield 21, 3) := by decide +kernel
theorem dX7_isDigit_5 : decode cX7_isDigit 5 = .ok (.iconst 1, 1) := by decide +kernel
theorem dX7_isDigit_6 : decode cX7_isDigit 6 = .ok (.isub, 1) := by decide +kernel
theorem dX7_isDigit_7 : decode cX7_isDigit 7 = .ok (.invokestatic 25, 3) := by decide +kernel
theorem dX7_isDigit_10 : decode cX7_isDigit 10 = .ok (.ifCond .eq 29, 3) := by decide +kernel
theorem dX7_isDigit_13 : decode cX7_isDigit 13 = .ok (.aload_n 0, 1) := by decide +kernel
theorem dX7_isDigit_14 : decode cX7_isDigit 14 = .ok (.getfield 9, 3) := by decide +kernel
theorem dX7_isDigit_17 : decode cX7_isDigit 17 = .ok (.iload_n 1, 1) := by decide +kernel
theorem dX7_isDigit_18 : decode cX7_isDigit 18 = .ok (.baload, 1) := by decide +kernel
theorem dX7_isDigit_19 : decode cX7_isDigit 19 = .ok (.bipush 48, 2) := by decide +kernel
theorem dX7_isDigit_21 : decode cX7_isDigit 21 = .ok (.if_icmp .lt 18, 3) := by decide +kernel
theorem dX7_isDigit_24 : decode cX7_isDigit 24 = .ok (.aload_n 0, 1) := by decide +kernel
theorem dX7_isDigit_25 : decode cX7_isDigit 25 = .ok (.getfield 9, 3) := by decide +kernel
theorem dX7_isDigit_28 : decode cX7_isDigit 28 = .ok (.iload_n 1, 1) := by decide +kernel
theorem dX7_isDigit_29 : decode cX7_isDigit 29 = .ok (.baload, 1) := by decide +kernel
theorem dX7_isDigit_30 : decode cX7_isDigit 30 = .ok (.bipush 57, 2) := by decide +kernel
theorem dX7_isDigit_32 : decode cX7_isDigit 32 = .ok (.if_icmp .gt 7, 3) := by decide +kernel
theorem dX7_isDigit_35 : decode cX7_isDigit 35 = .ok (.iconst 1, 1) := by decide +kernel
theorem dX7_isDigit_36 : decode cX7_isDigit 36 = .ok (.goto 4, 3) := by decide +kernel
theorem dX7_isDigit_39 : decode cX7_isDigit 39 = .ok (.iconst 0, 1) := by decide +kernel
theorem dX7_isDigit_40 : decode cX7_isDigit 40 = .ok (.ireturn, 1) := by decide +kernel
theorem dX7_endOfLetters_0 : decode cX7_endOfLetters 0 = .ok (.iload_n 1, 1) := by decide +kernel
theorem dX7_endOfLetters_1 : decode cX7_endOfLetters 1 = .ok (.istore_n 2, 1) := by decide +kernel
theorem dX7_endOfLetters_2 : decode cX7_endOfLetters 2 = .ok (.iload_n 2, 1) := by decide +kernel
theorem dX7_endOfLetters_3 : decode cX7_endOfLetters 3 = .ok (.aload_n 0, 1) := by decide +kernel
theorem dX7_endOfLetters_4 : decode cX7_endOfLetters 4 = .ok (.getfield 21, 3) := by decide +kernel
theorem dX7_endOfLetters_7 : decode cX7_endOfLetters 7 = .ok (.if_icmp .ge 17, 3) := by decide +kernel
theorem dX7_endOfLetters_10 : decode cX7_endOfLetters 10 = .ok (.aload_n 0, 1) := by decide +kernel
theorem dX7_endOfLetters_11 : decode cX7_endOfLetters 11 = .ok (.iload_n 2, 1) := by decide +kernel
theorem dX7_endOfLetters_12 : decode cX7_endOfLetters 12 = .ok (.invokevirtual 29, 3) := by decide +kernel
theorem dX7_endOfLetters_15 : decode cX7_endOfLetters 15 = .ok (.ifCond .eq 9, 3) := by decide +kernel
theorem dX7_endOfLetters_18 : decode cX7_endOfLetters 18 = .ok (.iinc 2 1, 3) := by decide +kernel
theorem dX7_endOfLetters_21 : decode cX7_endOfLetters 21 = .ok (.goto (-19), 3) := by decide +kernel
theorem dX7_endOfLetters_24 : decode cX7_endOfLetters 24 = .ok (.iload_n 2, 1) := by decide +kernel
theorem dX7_endOfLetters_25 : decode cX7_endOfLetters 25 = .ok (.ireturn, 1) := by decide +kernel
theorem dX7_endOfDigits_0 : decode cX7_endOfDigits 0 = .ok (.iload_n 1, 1) := by decide +kernel
theorem dX7_endOfDigits_1 : decode cX7_endOfDigits 1 = .ok (.istore_n 2, 1) := by decide +kernel
theorem dX7_endOfDigits_2 : decode cX7_endOfDigits 2 = .ok (.iload_n 2, 1) := by decide +kernel
theorem dX7_endOfDigits_3 : decode cX7_endOfDigits 3 = .ok (.aload_n 0, 1) := by decide +kernel
theorem dX7_endOfDigits_4 : decode cX7_endOfDigits 4 = .ok (.getfield 21, 3) := by decide +kernel
theorem dX7_endOfDigits_7 : decode cX7_endOfDigits 7 = .ok (.if_icmp .ge 17, 3) := by decide +kernel
theorem dX7_endOfDigits_10 : decode cX7_endOfDigits 10 = .ok (.aload_n 0, 1) := by decide +kernel
theorem dX7_endOfDigits_11 : decode cX7_endOfDigits 11 = .ok (.iload_n 2, 1) := by decide +kernel
theorem dX7_endOfDigits_12 : decode cX7_endOfDigits 12 = .ok (.invokevirtual 33, 3) := by decide +kernel
theorem dX7_endOfDigits_15 : decode cX7_endOfDigits 15 = .ok (.ifCond .eq 9, 3) := by decide +kernel
theorem dX7_endOfDigits_18 : decode cX7_endOfDigits 18 = .ok (.iinc 2 1, 3) := by decide +kernel
theorem dX7_endOfDigits_21 : decode cX7_endOfDigits 21 = .ok (.goto (-19), 3) := by decide +kernel
theorem dX7_endOfDigits_24 : decode cX7_endOfDigits 24 = .ok (.iload_n 2, 1) := by decide +kernel
theorem dX7_endOfDigits_25 : decode cX7_endOfDigits 25 = .ok (.ireturn, 1) := by decide +kernel
theorem dX7_spells_0 : decode cX7_spells 0 = .ok (.iload_n 1, 1) := by decide +kernel
theorem dX7_spells_1 : decode cX7_spells 1 = .ok (.ifCond .lt 21, 3) := by decide +kernel
theorem dX7_spells_4 : decode cX7_spells 4 = .ok (.iload_n 2, 1) := by decide +kernel
theorem dX7_spells_5 : decode cX7_spells 5 = .ok (.aload_n 0, 1) := by decide +kernel
theorem dX7_spells_6 : decode cX7_spells 6 = .ok (.getfield 21, 3) := by decide +kernel
theorem dX7_spells_9 : decode cX7_spells 9 = .ok (.if_icmp .gt 13, 3) := by decide +kernel
theorem dX7_spells_12 : decode cX7_spells 12 = .ok (.iload_n 2, 1) := by decide +kernel
theorem dX7_spells_13 : decode cX7_spells 13 = .ok (.iload_n 1, 1) := by decide +kernel
theorem dX7_spells_14 : decode cX7_spells 14 = .ok (.isub, 1) := by decide +kernel
theorem dX7_spells_15 : decode cX7_spells 15 = .ok (.aload_n 3, 1) := by decide +kernel
theorem dX7_spells_16 : decode cX7_spells 16 = .ok (.invokevirtual 36, 3) := by decide +kernel
theorem dX7_spells_19 : decode cX7_spells 19 = .ok (.if_icmp .eq 5, 3) := by decide +kernel
theorem dX7_spells_22 : decode cX7_spells 22 = .ok (.iconst 0, 1) := by decide +kernel
theorem dX7_spells_23 : decode cX7_spells 23 = .ok (.ireturn, 1) := by decide +kernel
theorem dX7_spells_24 : decode cX7_spells 24 = .ok (.iconst 0, 1) := by decide +kernel
theorem dX7_spells_25 : decode cX7_spells 25 = .ok (.istore 4, 2) := by decide +kernel
theorem dX7_spells_27 : decode cX7_spells 27 = .ok (.iload 4, 2) := by decide +kernel
theorem dX7_spells_29 : decode cX7_spells 29 = .ok (.aload_n 3, 1) := by decide +kernel
theorem dX7_spells_30 : decode cX7_spells 30 = .ok (.invokevirtual 36, 3) := by decide +kernel
theorem dX7_spells_33 : decode cX7_spells 33 = .ok (.if_icmp .ge 29, 3) := by decide +kernel
theorem dX7_spells_36 : decode cX7_spells 36 = .ok (.aload_n 0, 1) := by decide +kernel
theorem dX7_spells_37 : decode cX7_spells 37 = .ok (.getfield 9, 3) := by decide +kernel
theorem dX7_spells_40 : decode cX7_spells 40 = .ok (.iload_n 1, 1) := by decide +kernel
theorem dX7_spells_41 : decode cX7_spells 41 = .ok (.iload 4, 2) := by decide +kernel
theorem dX7_spells_43 : decode cX7_spells 43 = .ok (.iadd, 1) := by decide +kernel
theorem dX7_spells_44 : decode cX7_spells 44 = .ok (.baload, 1) := by decide +kernel
theorem dX7_spells_45 : decode cX7_spells 45 = .ok (.aload_n 3, 1) := by decide +kernel
theorem dX7_spells_46 : decode cX7_spells 46 = .ok (.iload 4, 2) := by decide +kernel
theorem dX7_spells_48 : decode cX7_spells 48 = .ok (.invokevirtual 41, 3) := by decide +kernel
theorem dX7_spells_51 : decode cX7_spells 51 = .ok (.if_icmp .eq 5, 3) := by decide +kernel
theorem dX7_spells_54 : decode cX7_spells 54 = .ok (.iconst 0, 1) := by decide +kernel
theorem dX7_spells_55 : decode cX7_spells 55 = .ok (.ireturn, 1) := by decide +kernel
theorem dX7_spells_56 : decode cX7_spells 56 = .ok (.iinc 4 1, 3) := by decide +kernel
theorem dX7_spells_59 : decode cX7_spells 59 = .ok (.goto (-32), 3) := by decide +kernel
theorem dX7_spells_62 : decode cX7_spells 62 = .ok (.iconst 1, 1) := by decide +kernel
theorem dX7_spells_63 : decode cX7_spells 63 = .ok (.ireturn, 1) := by decide +kernel
theorem dX8_init_0 : decode cX8_init 0 = .ok (.aload_n 0, 1) := by decide +kernel
theorem dX8_init_1 : decode cX8_init 1 = .ok (.invokespecial 3, 3) := by decide +kernel
theorem dX8_init_4 : decode cX8_init 4 = .ok (.aload_n 0, 1) := by decide +kernel
theorem dX8_init_5 : decode cX8_init 5 = .ok (.sipush 601, 3) := by decide +kernel
theorem dX8_init_8 : decode cX8_init 8 = .ok (.newarray .int, 2) := by decide +kernel
theorem dX8_init_10 : decode cX8_init 10 = .ok (.putfield 9, 3) := by decide +kernel
theorem dX8_init_13 : decode cX8_init 13 = .ok (.aload_n 0, 1) := by decide +kernel
theorem dX8_init_14 : decode cX8_init 14 = .ok (.sipush 601, 3) := by decide +kernel
theorem dX8_init_17 : decode cX8_init 17 = .ok (.newarray .int, 2) := by decide +kernel
theorem dX8_init_19 : decode cX8_init 19 = .ok (.putfield 15, 3) := by decide +kernel
theorem dX8_init_22 : decode cX8_init 22 = .ok (.aload_n 0, 1) := by decide +kernel
theorem dX8_init_23 : decode cX8_init 23 = .ok (.sipush 601, 3) := by decide +kernel
theorem dX8_init_26 : decode cX8_init 26 = .ok (.newarray .int, 2) := by decide +kernel
theorem dX8_init_28 : decode cX8_init 28 = .ok (.putfield 18, 3) := by decide +kernel
theorem dX8_init_31 : decode cX8_init 31 = .ok (.return_, 1) := by decide +kernel
theorem dX8_scan_0 : decode cX8_scan 0 = .ok (.aload_n 0, 1) := by decide +kernel
theorem dX8_scan_1 : decode cX8_scan 1 = .ok (.iconst 0, 1) := by decide +kernel
theorem dX8_scan_2 : decode cX8_scan 2 = .ok (.putfield 21, 3) := by decide +kernel
theorem dX8_scan_5 : decode cX8_scan 5 = .ok (.iconst 0, 1) := by decide +kernel
theorem dX8_scan_6 : decode cX8_scan 6 = .ok (.istore_n 2, 1) := by decide +kernel
theorem dX8_scan_7 : decode cX8_scan 7 = .ok (.iload_n 2, 1) := by decide +kernel
theorem dX8_scan_8 : decode cX8_scan 8 = .ok (.aload_n 1, 1) := by decide +kernel
theorem dX8_scan_9 : decode cX8_scan 9 = .ok (.getfield 25, 3) := by decide +kernel
theorem dX8_scan_12 : decode cX8_scan 12 = .ok (.if_icmp .ge 23, 3) := by decide +kernel
theorem dX8_scan_15 : decode cX8_scan 15 = .ok (.aload_n 1, 1) := by decide +kernel
theorem dX8_scan_16 : decode cX8_scan 16 = .ok (.iload_n 2, 1) := by decide +kernel
theorem dX8_scan_17 : decode cX8_scan 17 = .ok (.invokestatic 30, 3) := by decide +kernel
theorem dX8_scan_20 : decode cX8_scan 20 = .ok (.ifCond .eq 9, 3) := by decide +kernel
theorem dX8_scan_23 : decode cX8_scan 23 = .ok (.aload_n 0, 1) := by decide +kernel
theorem dX8_scan_24 : decode cX8_scan 24 = .ok (.aload_n 1, 1) := by decide +kernel
theorem dX8_scan_25 : decode cX8_scan 25 = .ok (.iload_n 2, 1) := by decide +kernel
theorem dX8_scan_26 : decode cX8_scan 26 = .ok (.invokevirtual 34, 3) := by decide +kernel
theorem dX8_scan_29 : decode cX8_scan 29 = .ok (.iinc 2 1, 3) := by decide +kernel
theorem dX8_scan_32 : decode cX8_scan 32 = .ok (.goto (-25), 3) := by decide +kernel
theorem dX8_scan_35 : decode cX8_scan 35 = .ok (.aload_n 0, 1) := by decide +kernel
theorem dX8_scan_36 : decode cX8_scan 36 = .ok (.iconst 0, 1) := by decide +kernel
theorem dX8_scan_37 : decode cX8_scan 37 = .ok (.aload_n 1, 1) := by decide +kernel
theorem dX8_scan_38 : decode cX8_scan 38 = .ok (.getfield 25, 3) := by decide +kernel
theorem dX8_scan_41 : decode cX8_scan 41 = .ok (.iconst 0, 1) := by decide +kernel
theorem dX8_scan_42 : decode cX8_scan 42 = .ok (.invokevirtual 38, 3) := by decide +kernel
theorem dX8_scan_45 : decode cX8_scan 45 = .ok (.return_, 1) := by decide +kernel
theorem dX8_startsToken_0 : decode cX8_startsToken 0 = .ok (.aload_n 0, 1) := by decide +kernel
theorem dX8_startsToken_1 : decode cX8_startsToken 1 = .ok (.iload_n 1, 1) := by decide +kernel
theorem dX8_startsToken_2 : decode cX8_startsToken 2 = .ok (.invokevirtual 42, 3) := by decide +kernel
theorem dX8_startsToken_5 : decode cX8_startsToken 5 = .ok (.ifCond .eq 13, 3) := by decide +kernel
theorem dX8_startsToken_8 : decode cX8_startsToken 8 = .ok (.aload_n 0, 1) := by decide +kernel
theorem dX8_startsToken_9 : decode cX8_startsToken 9 = .ok (.iload_n 1, 1) := by decide +kernel
theorem dX8_startsToken_10 : decode cX8_startsToken 10 = .ok (.iconst 1, 1) := by decide +kernel
theorem dX8_startsToken_11 : decode cX8_startsToken 11 = .ok (.isub, 1) := by decide +kernel
theorem dX8_startsToken_12 : decode cX8_startsToken 12 = .ok (.invokevirtual 42, 3) := by decide +kernel
theorem dX8_startsToken_15 : decode cX8_startsToken 15 = .ok (.ifCond .ne 21, 3) := by decide +kernel
theorem dX8_startsToken_18 : decode cX8_startsToken 18 = .ok (.aload_n 0, 1) := by decide +kernel
theorem dX8_startsToken_19 : decode cX8_startsToken 19 = .ok (.iload_n 1, 1) := by decide +kernel
theorem dX8_startsToken_20 : decode cX8_startsToken 20 = .ok (.invokevirtual 46, 3) := by decide +kernel
theorem dX8_startsToken_23 : decode cX8_startsToken 23 = .ok (.ifCond .eq 17, 3) := by decide +kernel
theorem dX8_startsToken_26 : decode cX8_startsToken 26 = .ok (.aload_n 0, 1) := by decide +kernel
theorem dX8_startsToken_27 : decode cX8_startsToken 27 = .ok (.iload_n 1, 1) := by decide +kernel
theorem dX8_startsToken_28 : decode cX8_startsToken 28 = .ok (.iconst 1, 1) := by decide +kernel
theorem dX8_startsToken_29 : decode cX8_startsToken 29 = .ok (.isub, 1) := by decide +kernel
theorem dX8_startsToken_30 : decode cX8_startsToken 30 = .ok (.invokevirtual 46, 3) := by decide +kernel
theorem dX8_startsToken_33 : decode cX8_startsToken 33 = .ok (.ifCond .eq 7, 3) := by decide +kernel
theorem dX8_startsToken_36 : decode cX8_startsToken 36 = .ok (.iconst 1, 1) := by decide +kernel
theorem dX8_startsToken_37 : decode cX8_startsToken 37 = .ok (.goto 4, 3) := by decide +kernel
theorem dX8_startsToken_40 : decode cX8_startsToken 40 = .ok (.iconst 0, 1) := by decide +kernel
theorem dX8_startsToken_41 : decode cX8_startsToken 41 = .ok (.istore_n 2, 1) := by decide +kernel
theorem dX8_startsToken_42 : decode cX8_startsToken 42 = .ok (.iload_n 2, 1) := by decide +kernel
theorem dX8_startsToken_43 : decode cX8_startsToken 43 = .ok (.ifCond .ne 15, 3) := by decide +kernel
theorem dX8_startsToken_46 : decode cX8_startsToken 46 = .ok (.aload_n 0, 1) := by decide +kernel
theorem dX8_startsToken_47 : decode cX8_startsToken 47 = .ok (.iload_n 1, 1) := by decide +kernel
theorem dX8_startsToken_48 : decode cX8_startsToken 48 = .ok (.invokevirtual 49, 3) := by decide +kernel
theorem dX8_startsToken_51 : decode cX8_startsToken 51 = .ok (.ifCond .ne 7, 3) := by decide +kernel
theorem dX8_startsToken_54 : decode cX8_startsToken 54 = .ok (.iconst 1, 1) := by decide +kernel
theorem dX8_startsToken_55 : decode cX8_startsToken 55 = .ok (.goto 4, 3) := by decide +kernel
theorem dX8_startsToken_58 : decode cX8_startsToken 58 = .ok (.iconst 0, 1) := by decide +kernel
theorem dX8_startsToken_59 : decode cX8_startsToken 59 = .ok (.ireturn, 1) := by decide +kernel
theorem dX8_addFrom_0 : decode cX8_addFrom 0 = .ok (.aload_n 1, 1) := by decide +kernel
theorem dX8_addFrom_1 : decode cX8_addFrom 1 = .ok (.iload_n 2, 1) := by decide +kernel
theorem dX8_addFrom_2 : decode cX8_addFrom 2 = .ok (.invokevirtual 42, 3) := by decide +kernel
theorem dX8_addFrom_5 : decode cX8_addFrom 5 = .ok (.ifCond .eq 22, 3) := by decide +kernel
theorem dX8_addFrom_8 : decode cX8_addFrom 8 = .ok (.aload_n 0, 1) := by decide +kernel
theorem dX8_addFrom_9 : decode cX8_addFrom 9 = .ok (.aload_n 1, 1) := by decide +kernel
theorem dX8_addFrom_10 : decode cX8_addFrom 10 = .ok (.iload_n 2, 1) := by decide +kernel
theorem dX8_addFrom_11 : decode cX8_addFrom 11 = .ok (.aload_n 1, 1) := by decide +kernel
theorem dX8_addFrom_12 : decode cX8_addFrom 12 = .ok (.iload_n 2, 1) := by decide +kernel
theorem dX8_addFrom_13 : decode cX8_addFrom 13 = .ok (.invokevirtual 52, 3) := by decide +kernel
theorem dX8_addFrom_16 : decode cX8_addFrom 16 = .ok (.invokestatic 56, 3) := by decide +kernel
theorem dX8_addFrom_19 : decode cX8_addFrom 19 = .ok (.iload_n 2, 1) := by decide +kernel
theorem dX8_addFrom_20 : decode cX8_addFrom 20 = .ok (.iconst 0, 1) := by decide +kernel
theorem dX8_addFrom_21 : decode cX8_addFrom 21 = .ok (.invokevirtual 38, 3) := by decide +kernel
theorem dX8_addFrom_24 : decode cX8_addFrom 24 = .ok (.goto 40, 3) := by decide +kernel
theorem dX8_addFrom_27 : decode cX8_addFrom 27 = .ok (.aload_n 1, 1) := by decide +kernel
theorem dX8_addFrom_28 : decode cX8_addFrom 28 = .ok (.iload_n 2, 1) := by decide +kernel
theorem dX8_addFrom_29 : decode cX8_addFrom 29 = .ok (.invokevirtual 46, 3) := by decide +kernel
theorem dX8_addFrom_32 : decode cX8_addFrom 32 = .ok (.ifCond .eq 17, 3) := by decide +kernel
theorem dX8_addFrom_35 : decode cX8_addFrom 35 = .ok (.aload_n 0, 1) := by decide +kernel
theorem dX8_addFrom_36 : decode cX8_addFrom 36 = .ok (.aload_n 1, 1) := by decide +kernel
theorem dX8_addFrom_37 : decode cX8_addFrom 37 = .ok (.iload_n 2, 1) := by decide +kernel
theorem dX8_addFrom_38 : decode cX8_addFrom 38 = .ok (.aload_n 1, 1) := by decide +kernel
theorem dX8_addFrom_39 : decode cX8_addFrom 39 = .ok (.iload_n 2, 1) := by decide +kernel
theorem dX8_addFrom_40 : decode cX8_addFrom 40 = .ok (.invokevirtual 60, 3) := by decide +kernel
theorem dX8_addFrom_43 : decode cX8_addFrom 43 = .ok (.invokevirtual 63, 3) := by decide +kernel
theorem dX8_addFrom_46 : decode cX8_addFrom 46 = .ok (.goto 18, 3) := by decide +kernel
theorem dX8_addFrom_49 : decode cX8_addFrom 49 = .ok (.aload_n 0, 1) := by decide +kernel
theorem dX8_addFrom_50 : decode cX8_addFrom 50 = .ok (.aload_n 1, 1) := by decide +kernel
theorem dX8_addFrom_51 : decode cX8_addFrom 51 = .ok (.getfield 67, 3) := by decide +kernel
theorem dX8_addFrom_54 : decode cX8_addFrom 54 = .ok (.iload_n 2, 1) := by decide +kernel
theorem dX8_addFrom_55 : decode cX8_addFrom 55 = .ok (.baload, 1) := by decide +kernel
theorem dX8_addFrom_56 : decode cX8_addFrom 56 = .ok (.invokestatic 71, 3) := by decide +kernel
theorem dX8_addFrom_59 : decode cX8_addFrom 59 = .ok (.iload_n 2, 1) := by decide +kernel
theorem dX8_addFrom_60 : decode cX8_addFrom 60 = .ok (.iconst 0, 1) := by decide +kernel
theorem dX8_addFrom_61 : decode cX8_addFrom 61 = .ok (.invokevirtual 38, 3) := by decide +kernel
theorem dX8_addFrom_64 : decode cX8_addFrom 64 = .ok (.return_, 1) := by decide +kernel
theorem dX8_addNumber_0 : decode cX8_addNumber 0 = .ok (.iload_n 3, 1) := by decide +kernel
theorem dX8_addNumber_1 : decode cX8_addNumber 1 = .ok (.iload_n 2, 1) := by decide +kernel
theorem dX8_addNumber_2 : decode cX8_addNumber 2 = .ok (.isub, 1) := by decide +kernel
theorem dX8_addNumber_3 : decode cX8_addNumber 3 = .ok (.iconst 4, 1) := by decide +kernel
theorem dX8_addNumber_4 : decode cX8_addNumber 4 = .ok (.if_icmp .le 11, 3) := by decide +kernel
theorem dX8_addNumber_7 : decode cX8_addNumber 7 = .ok (.aload_n 0, 1) := by decide +kernel
theorem dX8_addNumber_8 : decode cX8_addNumber 8 = .ok (.iconst 1, 1) := by decide +kernel
theorem dX8_addNumber_9 : decode cX8_addNumber 9 = .ok (.iload_n 2, 1) := by decide +kernel
theorem dX8_addNumber_10 : decode cX8_addNumber 10 = .ok (.iconst 0, 1) := by decide +kernel
theorem dX8_addNumber_11 : decode cX8_addNumber 11 = .ok (.invokevirtual 38, 3) := by decide +kernel
theorem dX8_addNumber_14 : decode cX8_addNumber 14 = .ok (.return_, 1) := by decide +kernel
theorem dX8_addNumber_15 : decode cX8_addNumber 15 = .ok (.iconst 0, 1) := by decide +kernel
theorem dX8_addNumber_16 : decode cX8_addNumber 16 = .ok (.istore 4, 2) := by decide +kernel
theorem dX8_addNumber_18 : decode cX8_addNumber 18 = .ok (.iload_n 2, 1) := by decide +kernel
theorem dX8_addNumber_19 : decode cX8_addNumber 19 = .ok (.istore 5, 2) := by decide +kernel
theorem dX8_addNumber_21 : decode cX8_addNumber 21 = .ok (.iload 5, 2) := by decide +kernel
theorem dX8_addNumber_23 : decode cX8_addNumber 23 = .ok (.iload_n 3, 1) := by decide +kernel
theorem dX8_addNumber_24 : decode cX8_addNumber 24 = .ok (.if_icmp .ge 27, 3) := by decide +kernel
theorem dX8_addNumber_27 : decode cX8_addNumber 27 = .ok (.iload 4, 2) := by decide +kernel
theorem dX8_addNumber_29 : decode cX8_addNumber 29 = .ok (.bipush 10, 2) := by decide +kernel
theorem dX8_addNumber_31 : decode cX8_addNumber 31 = .ok (.imul, 1) := by decide +kernel
theorem dX8_addNumber_32 : decode cX8_addNumber 32 = .ok (.aload_n 1, 1) := by decide +kernel
theorem dX8_addNumber_33 : decode cX8_addNumber 33 = .ok (.getfield 67, 3) := by decide +kernel
theorem dX8_addNumber_36 : decode cX8_addNumber 36 = .ok (.iload 5, 2) := by decide +kernel
theorem dX8_addNumber_38 : decode cX8_addNumber 38 = .ok (.baload, 1) := by decide +kernel
theorem dX8_addNumber_39 : decode cX8_addNumber 39 = .ok (.bipush 48, 2) := by decide +kernel
theorem dX8_addNumber_41 : decode cX8_addNumber 41 = .ok (.isub, 1) := by decide +kernel
theorem dX8_addNumber_42 : decode cX8_addNumber 42 = .ok (.iadd, 1) := by decide +kernel
theorem dX8_addNumber_43 : decode cX8_addNumber 43 = .ok (.istore 4, 2) := by decide +kernel
theorem dX8_addNumber_45 : decode cX8_addNumber 45 = .ok (.iinc 5 1, 3) := by decide +kernel
theorem dX8_addNumber_48 : decode cX8_addNumber 48 = .ok (.goto (-27), 3) := by decide +kernel
theorem dX8_addNumber_51 : decode cX8_addNumber 51 = .ok (.aload_n 0, 1) := by decide +kernel
theorem dX8_addNumber_52 : decode cX8_addNumber 52 = .ok (.iconst 2, 1) := by decide +kernel
theorem dX8_addNumber_53 : decode cX8_addNumber 53 = .ok (.iload_n 2, 1) := by decide +kernel
theorem dX8_addNumber_54 : decode cX8_addNumber 54 = .ok (.iload 4, 2) := by decide +kernel
theorem dX8_addNumber_56 : decode cX8_addNumber 56 = .ok (.invokevirtual 38, 3) := by decide +kernel
theorem dX8_addNumber_59 : decode cX8_addNumber 59 = .ok (.return_, 1) := by decide +kernel
theorem dX8_add_0 : decode cX8_add 0 = .ok (.aload_n 0, 1) := by decide +kernel
theorem dX8_add_1 : decode cX8_add 1 = .ok (.getfield 21, 3) := by decide +kernel
theorem dX8_add_4 : decode cX8_add 4 = .ok (.sipush 600, 3) := by decide +kernel
theorem dX8_add_7 : decode cX8_add 7 = .ok (.if_icmp .gt 43, 3) := by decide +kernel
theorem dX8_add_10 : decode cX8_add 10 = .ok (.aload_n 0, 1) := by decide +kernel
theorem dX8_add_11 : decode cX8_add 11 = .ok (.getfield 9, 3) := by decide +kernel
theorem dX8_add_14 : decode cX8_add 14 = .ok (.aload_n 0, 1) := by decide +kernel
theorem dX8_add_15 : decode cX8_add 15 = .ok (.getfield 21, 3) := by decide +kernel
theorem dX8_add_18 : decode cX8_add 18 = .ok (.iload_n 1, 1) := by decide +kernel
theorem dX8_add_19 : decode cX8_add 19 = .ok (.iastore, 1) := by decide +kernel
theorem dX8_add_20 : decode cX8_add 20 = .ok (.aload_n 0, 1) := by decide +kernel
theorem dX8_add_21 : decode cX8_add 21 = .ok (.getfield 15, 3) := by decide +kernel
theorem dX8_add_24 : decode cX8_add 24 = .ok (.aload_n 0, 1) := by decide +kernel
theorem dX8_add_25 : decode cX8_add 25 = .ok (.getfield 21, 3) := by decide +kernel
theorem dX8_add_28 : decode cX8_add 28 = .ok (.iload_n 2, 1) := by decide +kernel
theorem dX8_add_29 : decode cX8_add 29 = .ok (.iastore, 1) := by decide +kernel
theorem dX8_add_30 : decode cX8_add 30 = .ok (.aload_n 0, 1) := by decide +kernel
theorem dX8_add_31 : decode cX8_add 31 = .ok (.getfield 18, 3) := by decide +kernel
theorem dX8_add_34 : decode cX8_add 34 = .ok (.aload_n 0, 1) := by decide +kernel
theorem dX8_add_35 : decode cX8_add 35 = .ok (.getfield 21, 3) := by decide +kernel
theorem dX8_add_38 : decode cX8_add 38 = .ok (.iload_n 3, 1) := by decide +kernel
theorem dX8_add_39 : decode cX8_add 39 = .ok (.iastore, 1) := by decide +kernel
theorem dX8_add_40 : decode cX8_add 40 = .ok (.aload_n 0, 1) := by decide +kernel
theorem dX8_add_41 : decode cX8_add 41 = .ok (.dup, 1) := by decide +kernel
theorem dX8_add_42 : decode cX8_add 42 = .ok (.getfield 21, 3) := by decide +kernel
theorem dX8_add_45 : decode cX8_add 45 = .ok (.iconst 1, 1) := by decide +kernel
theorem dX8_add_46 : decode cX8_add 46 = .ok (.iadd, 1) := by decide +kernel
theorem dX8_add_47 : decode cX8_add 47 = .ok (.putfield 21, 3) := by decide +kernel
theorem dX8_add_50 : decode cX8_add 50 = .ok (.return_, 1) := by decide +kernel
theorem dX8_signToken_0 : decode cX8_signToken 0 = .ok (.iload_n 0, 1) := by decide +kernel
theorem dX8_signToken_1 : decode cX8_signToken 1 = .ok (.tableswitch 105 40 61 #[103, 103, 105, 103, 105, 103, 105, 105, 105, 105, 105, 105, 105, 105, 105, 105, 105, 105, 105, 103, 103, 103], 103) := by decide +kernel
theorem dX8_signToken_104 : decode cX8_signToken 104 = .ok (.iload_n 0, 1) := by decide +kernel
theorem dX8_signToken_105 : decode cX8_signToken 105 = .ok (.ireturn, 1) := by decide +kernel
theorem dX8_signToken_106 : decode cX8_signToken 106 = .ok (.iconst 1, 1) := by decide +kernel
theorem dX8_signToken_107 : decode cX8_signToken 107 = .ok (.ireturn, 1) := by decide +kernel
theorem dX8_wordToken_0 : decode cX8_wordToken 0 = .ok (.aload_n 0, 1) := by decide +kernel
theorem dX8_wordToken_1 : decode cX8_wordToken 1 = .ok (.iload_n 1, 1) := by decide +kernel
theorem dX8_wordToken_2 : decode cX8_wordToken 2 = .ok (.iload_n 2, 1) := by decide +kernel
theorem dX8_wordToken_3 : decode cX8_wordToken 3 = .ok (.ldc 74, 2) := by decide +kernel
theorem dX8_wordToken_5 : decode cX8_wordToken 5 = .ok (.invokevirtual 76, 3) := by decide +kernel
theorem dX8_wordToken_8 : decode cX8_wordToken 8 = .ok (.ifCond .eq 7, 3) := by decide +kernel
theorem dX8_wordToken_11 : decode cX8_wordToken 11 = .ok (.sipush 201, 3) := by decide +kernel
theorem dX8_wordToken_14 : decode cX8_wordToken 14 = .ok (.ireturn, 1) := by decide +kernel
theorem dX8_wordToken_15 : decode cX8_wordToken 15 = .ok (.aload_n 0, 1) := by decide +kernel
theorem dX8_wordToken_16 : decode cX8_wordToken 16 = .ok (.iload_n 1, 1) := by decide +kernel
theorem dX8_wordToken_17 : decode cX8_wordToken 17 = .ok (.iload_n 2, 1) := by decide +kernel
theorem dX8_wordToken_18 : decode cX8_wordToken 18 = .ok (.ldc 80, 2) := by decide +kernel
theorem dX8_wordToken_20 : decode cX8_wordToken 20 = .ok (.invokevirtual 76, 3) := by decide +kernel
theorem dX8_wordToken_23 : decode cX8_wordToken 23 = .ok (.ifCond .eq 7, 3) := by decide +kernel
theorem dX8_wordToken_26 : decode cX8_wordToken 26 = .ok (.sipush 202, 3) := by decide +kernel
theorem dX8_wordToken_29 : decode cX8_wordToken 29 = .ok (.ireturn, 1) := by decide +kernel
theorem dX8_wordToken_30 : decode cX8_wordToken 30 = .ok (.aload_n 0, 1) := by decide +kernel
theorem dX8_wordToken_31 : decode cX8_wordToken 31 = .ok (.iload_n 1, 1) := by decide +kernel
theorem dX8_wordToken_32 : decode cX8_wordToken 32 = .ok (.iload_n 2, 1) := by decide +kernel
theorem dX8_wordToken_33 : decode cX8_wordToken 33 = .ok (.ldc 82, 2) := by decide +kernel
theorem dX8_wordToken_35 : decode cX8_wordToken 35 = .ok (.invokevirtual 76, 3) := by decide +kernel
theorem dX8_wordToken_38 : decode cX8_wordToken 38 = .ok (.ifCond .eq 7, 3) := by decide +kernel
theorem dX8_wordToken_41 : decode cX8_wordToken 41 = .ok (.sipush 203, 3) := by decide +kernel
theorem dX8_wordToken_44 : decode cX8_wordToken 44 = .ok (.ireturn, 1) := by decide +kernel
theorem dX8_wordToken_45 : decode cX8_wordToken 45 = .ok (.aload_n 0, 1) := by decide +kernel
theorem dX8_wordToken_46 : decode cX8_wordToken 46 = .ok (.iload_n 1, 1) := by decide +kernel
theorem dX8_wordToken_47 : decode cX8_wordToken 47 = .ok (.iload_n 2, 1) := by decide +kernel
theorem dX8_wordToken_48 : decode cX8_wordToken 48 = .ok (.ldc 84, 2) := by decide +kernel
theorem dX8_wordToken_50 : decode cX8_wordToken 50 = .ok (.invokevirtual 76, 3) := by decide +kernel
theorem dX8_wordToken_53 : decode cX8_wordToken 53 = .ok (.ifCond .eq 7, 3) := by decide +kernel
theorem dX8_wordToken_56 : decode cX8_wordToken 56 = .ok (.sipush 204, 3) := by decide +kernel
theorem dX8_wordToken_59 : decode cX8_wordToken 59 = .ok (.ireturn, 1) := by decide +kernel
theorem dX8_wordToken_60 : decode cX8_wordToken 60 = .ok (.aload_n 0, 1) := by decide +kernel
theorem dX8_wordToken_61 : decode cX8_wordToken 61 = .ok (.iload_n 1, 1) := by decide +kernel
theorem dX8_wordToken_62 : decode cX8_wordToken 62 = .ok (.iload_n 2, 1) := by decide +kernel
theorem dX8_wordToken_63 : decode cX8_wordToken 63 = .ok (.ldc 86, 2) := by decide +kernel
theorem dX8_wordToken_65 : decode cX8_wordToken 65 = .ok (.invokevirtual 76, 3) := by decide +kernel
theorem dX8_wordToken_68 : decode cX8_wordToken 68 = .ok (.ifCond .eq 7, 3) := by decide +kernel
theorem dX8_wordToken_71 : decode cX8_wordToken 71 = .ok (.sipush 205, 3) := by decide +kernel
theorem dX8_wordToken_74 : decode cX8_wordToken 74 = .ok (.ireturn, 1) := by decide +kernel
theorem dX8_wordToken_75 : decode cX8_wordToken 75 = .ok (.aload_n 0, 1) := by decide +kernel
theorem dX8_wordToken_76 : decode cX8_wordToken 76 = .ok (.iload_n 1, 1) := by decide +kernel
theorem dX8_wordToken_77 : decode cX8_wordToken 77 = .ok (.iload_n 2, 1) := by decide +kernel
theorem dX8_wordToken_78 : decode cX8_wordToken 78 = .ok (.ldc 88, 2) := by decide +kernel
theorem dX8_wordToken_80 : decode cX8_wordToken 80 = .ok (.invokevirtual 76, 3) := by decide +kernel
theorem dX8_wordToken_83 : decode cX8_wordToken 83 = .ok (.ifCond .eq 7, 3) := by decide +kernel
theorem dX8_wordToken_86 : decode cX8_wordToken 86 = .ok (.sipush 206, 3) := by decide +kernel
theorem dX8_wordToken_89 : decode cX8_wordToken 89 = .ok (.ireturn, 1) := by decide +kernel
theorem dX8_wordToken_90 : decode cX8_wordToken 90 = .ok (.aload_n 0, 1) := by decide +kernel
theorem dX8_wordToken_91 : decode cX8_wordToken 91 = .ok (.iload_n 1, 1) := by decide +kernel
theorem dX8_wordToken_92 : decode cX8_wordToken 92 = .ok (.iload_n 2, 1) := by decide +kernel
theorem dX8_wordToken_93 : decode cX8_wordToken 93 = .ok (.ldc 90, 2) := by decide +kernel
theorem dX8_wordToken_95 : decode cX8_wordToken 95 = .ok (.invokevirtual 76, 3) := by decide +kernel
theorem dX8_wordToken_98 : decode cX8_wordToken 98 = .ok (.ifCond .eq 7, 3) := by decide +kernel
theorem dX8_wordToken_101 : decode cX8_wordToken 101 = .ok (.sipush 207, 3) := by decide +kernel
theorem dX8_wordToken_104 : decode cX8_wordToken 104 = .ok (.ireturn, 1) := by decide +kernel
theorem dX8_wordToken_105 : decode cX8_wordToken 105 = .ok (.aload_n 0, 1) := by decide +kernel
theorem dX8_wordToken_106 : decode cX8_wordToken 106 = .ok (.iload_n 1, 1) := by decide +kernel
theorem dX8_wordToken_107 : decode cX8_wordToken 107 = .ok (.iload_n 2, 1) := by decide +kernel
theorem dX8_wordToken_108 : decode cX8_wordToken 108 = .ok (.ldc 92, 2) := by decide +kernel
theorem dX8_wordToken_110 : decode cX8_wordToken 110 = .ok (.invokevirtual 76, 3) := by decide +kernel
theorem dX8_wordToken_113 : decode cX8_wordToken 113 = .ok (.ifCond .eq 7, 3) := by decide +kernel
theorem dX8_wordToken_116 : decode cX8_wordToken 116 = .ok (.sipush 208, 3) := by decide +kernel
theorem dX8_wordToken_119 : decode cX8_wordToken 119 = .ok (.ireturn, 1) := by decide +kernel
theorem dX8_wordToken_120 : decode cX8_wordToken 120 = .ok (.aload_n 0, 1) := by decide +kernel
theorem dX8_wordToken_121 : decode cX8_wordToken 121 = .ok (.iload_n 1, 1) := by decide +kernel
theorem dX8_wordToken_122 : decode cX8_wordToken 122 = .ok (.iload_n 2, 1) := by decide +kernel
theorem dX8_wordToken_123 : decode cX8_wordToken 123 = .ok (.ldc 94, 2) := by decide +kernel
theorem dX8_wordToken_125 : decode cX8_wordToken 125 = .ok (.invokevirtual 76, 3) := by decide +kernel
theorem dX8_wordToken_128 : decode cX8_wordToken 128 = .ok (.ifCond .eq 9, 3) := by decide +kernel
theorem dX8_wordToken_131 : decode cX8_wordToken 131 = .ok (.sipush 209, 3) := by decide +kernel
theorem dX8_wordToken_134 : decode cX8_wordToken 134 = .ok (.goto 4, 3) := by decide +kernel
theorem dX8_wordToken_137 : decode cX8_wordToken 137 = .ok (.iconst 1, 1) := by decide +kernel
theorem dX8_wordToken_138 : decode cX8_wordToken 138 = .ok (.ireturn, 1) := by decide +kernel
theorem dX9_init_0 : decode cX9_init 0 = .ok (.aload_n 0, 1) := by decide +kernel
theorem dX9_init_1 : decode cX9_init 1 = .ok (.invokespecial 3, 3) := by decide +kernel
theorem dX9_init_4 : decode cX9_init 4 = .ok (.aload_n 0, 1) := by decide +kernel
theorem dX9_init_5 : decode cX9_init 5 = .ok (.new 9, 3) := by decide +kernel
theorem dX9_init_8 : decode cX9_init 8 = .ok (.dup, 1) := by decide +kernel
theorem dX9_init_9 : decode cX9_init 9 = .ok (.invokespecial 11, 3) := by decide +kernel
theorem dX9_init_12 : decode cX9_init 12 = .ok (.putfield 12, 3) := by decide +kernel
theorem dX9_init_15 : decode cX9_init 15 = .ok (.aload_n 0, 1) := by decide +kernel
theorem dX9_init_16 : decode cX9_init 16 = .ok (.new 16, 3) := by decide +kernel
theorem dX9_init_19 : decode cX9_init 19 = .ok (.dup, 1) := by decide +kernel
theorem dX9_init_20 : decode cX9_init 20 = .ok (.invokespecial 18, 3) := by decide +kernel
theorem dX9_init_23 : decode cX9_init 23 = .ok (.putfield 19, 3) := by decide +kernel
theorem dX9_init_26 : decode cX9_init 26 = .ok (.aload_n 0, 1) := by decide +kernel
theorem dX9_init_27 : decode cX9_init 27 = .ok (.new 23, 3) := by decide +kernel
theorem dX9_init_30 : decode cX9_init 30 = .ok (.dup, 1) := by decide +kernel
theorem dX9_init_31 : decode cX9_init 31 = .ok (.invokespecial 25, 3) := by decide +kernel
theorem dX9_init_34 : decode cX9_init 34 = .ok (.putfield 26, 3) := by decide +kernel
theorem dX9_init_37 : decode cX9_init 37 = .ok (.aload_n 0, 1) := by decide +kernel
theorem dX9_init_38 : decode cX9_init 38 = .ok (.new 30, 3) := by decide +kernel
theorem dX9_init_41 : decode cX9_init 41 = .ok (.dup, 1) := by decide +kernel
theorem dX9_init_42 : decode cX9_init 42 = .ok (.invokespecial 32, 3) := by decide +kernel
theorem dX9_init_45 : decode cX9_init 45 = .ok (.putfield 33, 3) := by decide +kernel
theorem dX9_init_48 : decode cX9_init 48 = .ok (.aload_n 0, 1) := by decide +kernel
theorem dX9_init_49 : decode cX9_init 49 = .ok (.new 37, 3) := by decide +kernel
theorem dX9_init_52 : decode cX9_init 52 = .ok (.dup, 1) := by decide +kernel
theorem dX9_init_53 : decode cX9_init 53 = .ok (.invokespecial 39, 3) := by decide +kernel
theorem dX9_init_56 : decode cX9_init 56 = .ok (.putfield 40, 3) := by decide +kernel
theorem dX9_init_59 : decode cX9_init 59 = .ok (.aload_n 0, 1) := by decide +kernel
theorem dX9_init_60 : decode cX9_init 60 = .ok (.new 44, 3) := by decide +kernel
theorem dX9_init_63 : decode cX9_init 63 = .ok (.dup, 1) := by decide +kernel
theorem dX9_init_64 : decode cX9_init 64 = .ok (.invokespecial 46, 3) := by decide +kernel
theorem dX9_init_67 : decode cX9_init 67 = .ok (.putfield 47, 3) := by decide +kernel
theorem dX9_init_70 : decode cX9_init 70 = .ok (.aload_n 0, 1) := by decide +kernel
theorem dX9_init_71 : decode cX9_init 71 = .ok (.new 51, 3) := by decide +kernel
theorem dX9_init_74 : decode cX9_init 74 = .ok (.dup, 1) := by decide +kernel
theorem dX9_init_75 : decode cX9_init 75 = .ok (.invokespecial 53, 3) := by decide +kernel
theorem dX9_init_78 : decode cX9_init 78 = .ok (.putfield 54, 3) := by decide +kernel
theorem dX9_init_81 : decode cX9_init 81 = .ok (.aload_n 0, 1) := by decide +kernel
theorem dX9_init_82 : decode cX9_init 82 = .ok (.new 58, 3) := by decide +kernel
theorem dX9_init_85 : decode cX9_init 85 = .ok (.dup, 1) := by decide +kernel
theorem dX9_init_86 : decode cX9_init 86 = .ok (.invokespecial 60, 3) := by decide +kernel
theorem dX9_init_89 : decode cX9_init 89 = .ok (.putfield 61, 3) := by decide +kernel
theorem dX9_init_92 : decode cX9_init 92 = .ok (.aload_n 0, 1) := by decide +kernel
theorem dX9_init_93 : decode cX9_init 93 = .ok (.bipush 10, 2) := by decide +kernel
theorem dX9_init_95 : decode cX9_init 95 = .ok (.newarray .int, 2) := by decide +kernel
theorem dX9_init_97 : decode cX9_init 97 = .ok (.putfield 65, 3) := by decide +kernel
theorem dX9_init_100 : decode cX9_init 100 = .ok (.aload_n 0, 1) := by decide +kernel
theorem dX9_init_101 : decode cX9_init 101 = .ok (.bipush 10, 2) := by decide +kernel
theorem dX9_init_103 : decode cX9_init 103 = .ok (.newarray .boolean, 2) := by decide +kernel
theorem dX9_init_105 : decode cX9_init 105 = .ok (.putfield 69, 3) := by decide +kernel
theorem dX9_init_108 : decode cX9_init 108 = .ok (.aload_n 0, 1) := by decide +kernel
theorem dX9_init_109 : decode cX9_init 109 = .ok (.bipush 6, 2) := by decide +kernel
theorem dX9_init_111 : decode cX9_init 111 = .ok (.newarray .int, 2) := by decide +kernel
theorem dX9_init_113 : decode cX9_init 113 = .ok (.putfield 73, 3) := by decide +kernel
theorem dX9_init_116 : decode cX9_init 116 = .ok (.aload_n 0, 1) := by decide +kernel
theorem dX9_init_117 : decode cX9_init 117 = .ok (.getfield 65, 3) := by decide +kernel
theorem dX9_init_120 : decode cX9_init 120 = .ok (.iconst 1, 1) := by decide +kernel
theorem dX9_init_121 : decode cX9_init 121 = .ok (.invokestatic 76, 3) := by decide +kernel
theorem dX9_init_124 : decode cX9_init 124 = .ok (.return_, 1) := by decide +kernel
theorem dX9_years_0 : decode cX9_years 0 = .ok (.iload_n 1, 1) := by decide +kernel
theorem dX9_years_1 : decode cX9_years 1 = .ok (.bipush 20, 2) := by decide +kernel
theorem dX9_years_3 : decode cX9_years 3 = .ok (.invokestatic 82, 3) := by decide +kernel
theorem dX9_years_6 : decode cX9_years 6 = .ok (.ifCond .eq 17, 3) := by decide +kernel
theorem dX9_years_9 : decode cX9_years 9 = .ok (.aload_n 0, 1) := by decide +kernel
theorem dX9_years_10 : decode cX9_years 10 = .ok (.getfield 12, 3) := by decide +kernel
theorem dX9_years_13 : decode cX9_years 13 = .ok (.getfield 86, 3) := by decide +kernel
theorem dX9_years_16 : decode cX9_years 16 = .ok (.iload_n 1, 1) := by decide +kernel
theorem dX9_years_17 : decode cX9_years 17 = .ok (.iadd, 1) := by decide +kernel
theorem dX9_years_18 : decode cX9_years 18 = .ok (.bipush 99, 2) := by decide +kernel
theorem dX9_years_20 : decode cX9_years 20 = .ok (.if_icmp .le 5, 3) := by decide +kernel
theorem dX9_years_23 : decode cX9_years 23 = .ok (.iconst (-1), 1) := by decide +kernel
theorem dX9_years_24 : decode cX9_years 24 = .ok (.ireturn, 1) := by decide +kernel
theorem dX9_years_25 : decode cX9_years 25 = .ok (.aload_n 0, 1) := by decide +kernel
theorem dX9_years_26 : decode cX9_years 26 = .ok (.getfield 12, 3) := by decide +kernel
theorem dX9_years_29 : decode cX9_years 29 = .ok (.dup, 1) := by decide +kernel
theorem dX9_years_30 : decode cX9_years 30 = .ok (.getfield 86, 3) := by decide +kernel
theorem dX9_years_33 : decode cX9_years 33 = .ok (.iload_n 1, 1) := by decide +kernel
theorem dX9_years_34 : decode cX9_years 34 = .ok (.iadd, 1) := by decide +kernel
theorem dX9_years_35 : decode cX9_years 35 = .ok (.putfield 86, 3) := by decide +kernel
theorem dX9_years_38 : decode cX9_years 38 = .ok (.aload_n 0, 1) := by decide +kernel
theorem dX9_years_39 : decode cX9_years 39 = .ok (.getfield 12, 3) := by decide +kernel
theorem dX9_years_42 : decode cX9_years 42 = .ok (.getfield 86, 3) := by decide +kernel
theorem dX9_years_45 : decode cX9_years 45 = .ok (.ireturn, 1) := by decide +kernel
theorem dX9_fact_0 : decode cX9_fact 0 = .ok (.iload_n 1, 1) := by decide +kernel
theorem dX9_fact_1 : decode cX9_fact 1 = .ok (.invokestatic 90, 3) := by decide +kernel
theorem dX9_fact_4 : decode cX9_fact 4 = .ok (.ifCond .eq 21, 3) := by decide +kernel
theorem dX9_fact_7 : decode cX9_fact 7 = .ok (.iload_n 2, 1) := by decide +kernel
theorem dX9_fact_8 : decode cX9_fact 8 = .ok (.invokestatic 94, 3) := by decide +kernel
theorem dX9_fact_11 : decode cX9_fact 11 = .ok (.ifCond .eq 14, 3) := by decide +kernel
theorem dX9_fact_14 : decode cX9_fact 14 = .ok (.iload_n 3, 1) := by decide +kernel
theorem dX9_fact_15 : decode cX9_fact 15 = .ok (.invokestatic 97, 3) := by decide +kernel
theorem dX9_fact_18 : decode cX9_fact 18 = .ok (.ifCond .eq 7, 3) := by decide +kernel
theorem dX9_fact_21 : decode cX9_fact 21 = .ok (.iconst 1, 1) := by decide +kernel
theorem dX9_fact_22 : decode cX9_fact 22 = .ok (.goto 4, 3) := by decide +kernel
theorem dX9_fact_25 : decode cX9_fact 25 = .ok (.iconst 0, 1) := by decide +kernel
theorem dX9_fact_26 : decode cX9_fact 26 = .ok (.istore 4, 2) := by decide +kernel
theorem dX9_fact_28 : decode cX9_fact 28 = .ok (.iload 4, 2) := by decide +kernel
theorem dX9_fact_30 : decode cX9_fact 30 = .ok (.ifCond .eq 15, 3) := by decide +kernel
theorem dX9_fact_33 : decode cX9_fact 33 = .ok (.aload_n 0, 1) := by decide +kernel
theorem dX9_fact_34 : decode cX9_fact 34 = .ok (.getfield 12, 3) := by decide +kernel
theorem dX9_fact_37 : decode cX9_fact 37 = .ok (.getfield 100, 3) := by decide +kernel
theorem dX9_fact_40 : decode cX9_fact 40 = .ok (.bipush 60, 2) := by decide +kernel
theorem dX9_fact_42 : decode cX9_fact 42 = .ok (.if_icmp .lt 5, 3) := by decide +kernel
theorem dX9_fact_45 : decode cX9_fact 45 = .ok (.iconst (-1), 1) := by decide +kernel
theorem dX9_fact_46 : decode cX9_fact 46 = .ok (.ireturn, 1) := by decide +kernel
theorem dX9_fact_47 : decode cX9_fact 47 = .ok (.aload_n 0, 1) := by decide +kernel
theorem dX9_fact_48 : decode cX9_fact 48 = .ok (.getfield 12, 3) := by decide +kernel
theorem dX9_fact_51 : decode cX9_fact 51 = .ok (.iload_n 1, 1) := by decide +kernel
theorem dX9_fact_52 : decode cX9_fact 52 = .ok (.iload_n 2, 1) := by decide +kernel
theorem dX9_fact_53 : decode cX9_fact 53 = .ok (.iload_n 3, 1) := by decide +kernel
theorem dX9_fact_54 : decode cX9_fact 54 = .ok (.invokevirtual 103, 3) := by decide +kernel
theorem dX9_fact_57 : decode cX9_fact 57 = .ok (.ireturn, 1) := by decide +kernel
theorem dX9_line_0 : decode cX9_line 0 = .ok (.aload_n 0, 1) := by decide +kernel
theorem dX9_line_1 : decode cX9_line 1 = .ok (.getfield 12, 3) := by decide +kernel
theorem dX9_line_4 : decode cX9_line 4 = .ok (.iload_n 1, 1) := by decide +kernel
theorem dX9_line_5 : decode cX9_line 5 = .ok (.invokevirtual 107, 3) := by decide +kernel
theorem dX9_line_8 : decode cX9_line 8 = .ok (.ifCond .eq 24, 3) := by decide +kernel
theorem dX9_line_11 : decode cX9_line 11 = .ok (.iload_n 2, 1) := by decide +kernel
theorem dX9_line_12 : decode cX9_line 12 = .ok (.iconst 1, 1) := by decide +kernel
theorem dX9_line_13 : decode cX9_line 13 = .ok (.if_icmp .lt 19, 3) := by decide +kernel
theorem dX9_line_16 : decode cX9_line 16 = .ok (.iload_n 2, 1) := by decide +kernel
theorem dX9_line_17 : decode cX9_line 17 = .ok (.bipush 9, 2) := by decide +kernel
theorem dX9_line_19 : decode cX9_line 19 = .ok (.if_icmp .gt 13, 3) := by decide +kernel
theorem dX9_line_22 : decode cX9_line 22 = .ok (.iload_n 3, 1) := by decide +kernel
theorem dX9_line_23 : decode cX9_line 23 = .ok (.sipush 999, 3) := by decide +kernel
theorem dX9_line_26 : decode cX9_line 26 = .ok (.invokestatic 82, 3) := by decide +kernel
theorem dX9_line_29 : decode cX9_line 29 = .ok (.ifCond .ne 5, 3) := by decide +kernel
theorem dX9_line_32 : decode cX9_line 32 = .ok (.iconst 0, 1) := by decide +kernel
theorem dX9_line_33 : decode cX9_line 33 = .ok (.ireturn, 1) := by decide +kernel
theorem dX9_line_34 : decode cX9_line 34 = .ok (.aload_n 0, 1) := by decide +kernel
theorem dX9_line_35 : decode cX9_line 35 = .ok (.getfield 12, 3) := by decide +kernel
theorem dX9_line_38 : decode cX9_line 38 = .ok (.getfield 110, 3) := by decide +kernel
theorem dX9_line_41 : decode cX9_line 41 = .ok (.iload_n 1, 1) := by decide +kernel
theorem dX9_line_42 : decode cX9_line 42 = .ok (.iload_n 2, 1) := by decide +kernel
theorem dX9_line_43 : decode cX9_line 43 = .ok (.iastore, 1) := by decide +kernel
theorem dX9_line_44 : decode cX9_line 44 = .ok (.aload_n 0, 1) := by decide +kernel
theorem dX9_line_45 : decode cX9_line 45 = .ok (.getfield 12, 3) := by decide +kernel
theorem dX9_line_48 : decode cX9_line 48 = .ok (.getfield 113, 3) := by decide +kernel
theorem dX9_line_51 : decode cX9_line 51 = .ok (.iload_n 1, 1) := by decide +kernel
theorem dX9_line_52 : decode cX9_line 52 = .ok (.iload_n 3, 1) := by decide +kernel
theorem dX9_line_53 : decode cX9_line 53 = .ok (.iastore, 1) := by decide +kernel
theorem dX9_line_54 : decode cX9_line 54 = .ok (.iconst 1, 1) := by decide +kernel
theorem dX9_line_55 : decode cX9_line 55 = .ok (.ireturn, 1) := by decide +kernel
theorem dX9_check_0 : decode cX9_check 0 = .ok (.aload_n 0, 1) := by decide +kernel
theorem dX9_check_1 : decode cX9_check 1 = .ok (.getfield 12, 3) := by decide +kernel
theorem dX9_check_4 : decode cX9_check 4 = .ok (.iload_n 1, 1) := by decide +kernel
theorem dX9_check_5 : decode cX9_check 5 = .ok (.invokevirtual 107, 3) := by decide +kernel
theorem dX9_check_8 : decode cX9_check 8 = .ok (.ifCond .eq 10, 3) := by decide +kernel
theorem dX9_check_11 : decode cX9_check 11 = .ok (.iload_n 2, 1) := by decide +kernel
theorem dX9_check_12 : decode cX9_check 12 = .ok (.invokestatic 97, 3) := by decide +kernel
theorem dX9_check_15 : decode cX9_check 15 = .ok (.ifCond .ne 5, 3) := by decide +kernel
theorem dX9_check_18 : decode cX9_check 18 = .ok (.iconst (-1), 1) := by decide +kernel
theorem dX9_check_19 : decode cX9_check 19 = .ok (.ireturn, 1) := by decide +kernel
theorem dX9_check_20 : decode cX9_check 20 = .ok (.aload_n 0, 1) := by decide +kernel
theorem dX9_check_21 : decode cX9_check 21 = .ok (.getfield 19, 3) := by decide +kernel
theorem dX9_check_24 : decode cX9_check 24 = .ok (.iload_n 1, 1) := by decide +kernel
theorem dX9_check_25 : decode cX9_check 25 = .ok (.iload_n 2, 1) := by decide +kernel
theorem dX9_check_26 : decode cX9_check 26 = .ok (.invokevirtual 116, 3) := by decide +kernel
theorem dX9_check_29 : decode cX9_check 29 = .ok (.aload_n 0, 1) := by decide +kernel
theorem dX9_check_30 : decode cX9_check 30 = .ok (.getfield 54, 3) := by decide +kernel
theorem dX9_check_33 : decode cX9_check 33 = .ok (.iload_n 1, 1) := by decide +kernel
theorem dX9_check_34 : decode cX9_check 34 = .ok (.iload_n 2, 1) := by decide +kernel
theorem dX9_check_35 : decode cX9_check 35 = .ok (.invokevirtual 120, 3) := by decide +kernel
theorem dX9_check_38 : decode cX9_check 38 = .ok (.aload_n 0, 1) := by decide +kernel
theorem dX9_check_39 : decode cX9_check 39 = .ok (.getfield 12, 3) := by decide +kernel
theorem dX9_check_42 : decode cX9_check 42 = .ok (.iload_n 1, 1) := by decide +kernel
theorem dX9_check_43 : decode cX9_check 43 = .ok (.iload_n 2, 1) := by decide +kernel
theorem dX9_check_44 : decode cX9_check 44 = .ok (.invokevirtual 121, 3) := by decide +kernel
theorem dX9_check_47 : decode cX9_check 47 = .ok (.ifCond .eq 7, 3) := by decide +kernel
theorem dX9_check_50 : decode cX9_check 50 = .ok (.iconst 1, 1) := by decide +kernel
theorem dX9_check_51 : decode cX9_check 51 = .ok (.goto 4, 3) := by decide +kernel
theorem dX9_check_54 : decode cX9_check 54 = .ok (.iconst 0, 1) := by decide +kernel
theorem dX9_check_55 : decode cX9_check 55 = .ok (.ireturn, 1) := by decide +kernel
theorem dX9_rate_0 : decode cX9_rate 0 = .ok (.iload_n 1, 1) := by decide +kernel
theorem dX9_rate_1 : decode cX9_rate 1 = .ok (.invokestatic 90, 3) := by decide +kernel
theorem dX9_rate_4 : decode cX9_rate 4 = .ok (.ifCond .eq 14, 3) := by decide +kernel
theorem dX9_rate_7 : decode cX9_rate 7 = .ok (.aload_n 0, 1) := by decide +kernel
theorem dX9_rate_8 : decode cX9_rate 8 = .ok (.getfield 12, 3) := by decide +kernel
theorem dX9_rate_11 : decode cX9_rate 11 = .ok (.iload_n 1, 1) := by decide +kernel
theorem dX9_rate_12 : decode cX9_rate 12 = .ok (.invokevirtual 124, 3) := by decide +kernel
theorem dX9_rate_15 : decode cX9_rate 15 = .ok (.goto 4, 3) := by decide +kernel
theorem dX9_rate_18 : decode cX9_rate 18 = .ok (.iconst (-1), 1) := by decide +kernel
theorem dX9_rate_19 : decode cX9_rate 19 = .ok (.ireturn, 1) := by decide +kernel
theorem dX9_chance_0 : decode cX9_chance 0 = .ok (.aload_n 0, 1) := by decide +kernel
theorem dX9_chance_1 : decode cX9_chance 1 = .ok (.getfield 12, 3) := by decide +kernel
theorem dX9_chance_4 : decode cX9_chance 4 = .ok (.iload_n 1, 1) := by decide +kernel
theorem dX9_chance_5 : decode cX9_chance 5 = .ok (.invokevirtual 107, 3) := by decide +kernel
theorem dX9_chance_8 : decode cX9_chance 8 = .ok (.ifCond .eq 14, 3) := by decide +kernel
theorem dX9_chance_11 : decode cX9_chance 11 = .ok (.aload_n 0, 1) := by decide +kernel
theorem dX9_chance_12 : decode cX9_chance 12 = .ok (.getfield 12, 3) := by decide +kernel
theorem dX9_chance_15 : decode cX9_chance 15 = .ok (.iload_n 1, 1) := by decide +kernel
theorem dX9_chance_16 : decode cX9_chance 16 = .ok (.invokevirtual 128, 3) := by decide +kernel
theorem dX9_chance_19 : decode cX9_chance 19 = .ok (.goto 4, 3) := by decide +kernel
theorem dX9_chance_22 : decode cX9_chance 22 = .ok (.iconst (-1), 1) := by decide +kernel
theorem dX9_chance_23 : decode cX9_chance 23 = .ok (.ireturn, 1) := by decide +kernel
theorem dX9_takes_0 : decode cX9_takes 0 = .ok (.iload_n 1, 1) := by decide +kernel
theorem dX9_takes_1 : decode cX9_takes 1 = .ok (.invokestatic 94, 3) := by decide +kernel
theorem dX9_takes_4 : decode cX9_takes 4 = .ok (.ifCond .eq 14, 3) := by decide +kernel
theorem dX9_takes_7 : decode cX9_takes 7 = .ok (.iload_n 2, 1) := by decide +kernel
theorem dX9_takes_8 : decode cX9_takes 8 = .ok (.iconst 1, 1) := by decide +kernel
theorem dX9_takes_9 : decode cX9_takes 9 = .ok (.if_icmp .lt 9, 3) := by decide +kernel
theorem dX9_takes_12 : decode cX9_takes 12 = .ok (.iload_n 2, 1) := by decide +kernel
theorem dX9_takes_13 : decode cX9_takes 13 = .ok (.bipush 20, 2) := by decide +kernel
theorem dX9_takes_15 : decode cX9_takes 15 = .ok (.if_icmp .le 5, 3) := by decide +kernel
theorem dX9_takes_18 : decode cX9_takes 18 = .ok (.iconst 0, 1) := by decide +kernel
theorem dX9_takes_19 : decode cX9_takes 19 = .ok (.ireturn, 1) := by decide +kernel
theorem dX9_takes_20 : decode cX9_takes 20 = .ok (.aload_n 0, 1) := by decide +kernel
theorem dX9_takes_21 : decode cX9_takes 21 = .ok (.getfield 65, 3) := by decide +kernel
theorem dX9_takes_24 : decode cX9_takes 24 = .ok (.iload_n 1, 1) := by decide +kernel
theorem dX9_takes_25 : decode cX9_takes 25 = .ok (.iload_n 2, 1) := by decide +kernel
theorem dX9_takes_26 : decode cX9_takes 26 = .ok (.iastore, 1) := by decide +kernel
theorem dX9_takes_27 : decode cX9_takes 27 = .ok (.iconst 1, 1) := by decide +kernel
theorem dX9_takes_28 : decode cX9_takes 28 = .ok (.ireturn, 1) := by decide +kernel
theorem dX9_plan_0 : decode cX9_plan 0 = .ok (.iload_n 1, 1) := by decide +kernel
theorem dX9_plan_1 : decode cX9_plan 1 = .ok (.bipush 99, 2) := by decide +kernel
theorem dX9_plan_3 : decode cX9_plan 3 = .ok (.invokestatic 82, 3) := by decide +kernel
theorem dX9_plan_6 : decode cX9_plan 6 = .ok (.ifCond .eq 11, 3) := by decide +kernel
theorem dX9_plan_9 : decode cX9_plan 9 = .ok (.iload_n 2, 1) := by decide +kernel
theorem dX9_plan_10 : decode cX9_plan 10 = .ok (.iconst 1, 1) := by decide +kernel
theorem dX9_plan_11 : decode cX9_plan 11 = .ok (.invokestatic 82, 3) := by decide +kernel
theorem dX9_plan_14 : decode cX9_plan 14 = .ok (.ifCond .ne 5, 3) := by decide +kernel
theorem dX9_plan_17 : decode cX9_plan 17 = .ok (.iconst (-1), 1) := by decide +kernel
theorem dX9_plan_18 : decode cX9_plan 18 = .ok (.ireturn, 1) := by decide +kernel
theorem dX9_plan_19 : decode cX9_plan 19 = .ok (.aload_n 0, 1) := by decide +kernel
theorem dX9_plan_20 : decode cX9_plan 20 = .ok (.iload_n 1, 1) := by decide +kernel
theorem dX9_plan_21 : decode cX9_plan 21 = .ok (.invokevirtual 131, 3) := by decide +kernel
theorem dX9_plan_24 : decode cX9_plan 24 = .ok (.lstore_n 3, 1) := by decide +kernel
theorem dX9_plan_25 : decode cX9_plan 25 = .ok (.iload_n 2, 1) := by decide +kernel
theorem dX9_plan_26 : decode cX9_plan 26 = .ok (.ifCond .ne 8, 3) := by decide +kernel
theorem dX9_plan_29 : decode cX9_plan 29 = .ok (.lload_n 3, 1) := by decide +kernel
theorem dX9_plan_30 : decode cX9_plan 30 = .ok (.l2i, 1) := by decide +kernel
theorem dX9_plan_31 : decode cX9_plan 31 = .ok (.goto 12, 3) := by decide +kernel
theorem dX9_plan_34 : decode cX9_plan 34 = .ok (.aload_n 0, 1) := by decide +kernel
theorem dX9_plan_35 : decode cX9_plan 35 = .ok (.lload_n 3, 1) := by decide +kernel
theorem dX9_plan_36 : decode cX9_plan 36 = .ok (.invokevirtual 135, 3) := by decide +kernel
theorem dX9_plan_39 : decode cX9_plan 39 = .ok (.sipush 1000, 3) := by decide +kernel
theorem dX9_plan_42 : decode cX9_plan 42 = .ok (.idiv, 1) := by decide +kernel
theorem dX9_plan_43 : decode cX9_plan 43 = .ok (.ireturn, 1) := by decide +kernel
theorem dX9_letter_0 : decode cX9_letter 0 = .ok (.iload_n 1, 1) := by decide +kernel
theorem dX9_letter_1 : decode cX9_letter 1 = .ok (.invokestatic 139, 3) := by decide +kernel
theorem dX9_letter_4 : decode cX9_letter 4 = .ok (.ifCond .eq 25, 3) := by decide +kernel
theorem dX9_letter_7 : decode cX9_letter 7 = .ok (.aload_n 0, 1) := by decide +kernel
theorem dX9_letter_8 : decode cX9_letter 8 = .ok (.getfield 12, 3) := by decide +kernel
theorem dX9_letter_11 : decode cX9_letter 11 = .ok (.iload_n 2, 1) := by decide +kernel
theorem dX9_letter_12 : decode cX9_letter 12 = .ok (.invokevirtual 107, 3) := by decide +kernel
theorem dX9_letter_15 : decode cX9_letter 15 = .ok (.ifCond .eq 14, 3) := by decide +kernel
theorem dX9_letter_18 : decode cX9_letter 18 = .ok (.iload_n 3, 1) := by decide +kernel
theorem dX9_letter_19 : decode cX9_letter 19 = .ok (.invokestatic 97, 3) := by decide +kernel
theorem dX9_letter_22 : decode cX9_letter 22 = .ok (.ifCond .eq 7, 3) := by decide +kernel
theorem dX9_letter_25 : decode cX9_letter 25 = .ok (.iconst 1, 1) := by decide +kernel
theorem dX9_letter_26 : decode cX9_letter 26 = .ok (.goto 4, 3) := by decide +kernel
theorem dX9_letter_29 : decode cX9_letter 29 = .ok (.iconst 0, 1) := by decide +kernel
theorem dX9_letter_30 : decode cX9_letter 30 = .ok (.istore 4, 2) := by decide +kernel
theorem dX9_letter_32 : decode cX9_letter 32 = .ok (.iload 4, 2) := by decide +kernel
theorem dX9_letter_34 : decode cX9_letter 34 = .ok (.ifCond .eq 15, 3) := by decide +kernel
theorem dX9_letter_37 : decode cX9_letter 37 = .ok (.aload_n 0, 1) := by decide +kernel
theorem dX9_letter_38 : decode cX9_letter 38 = .ok (.getfield 19, 3) := by decide +kernel
theorem dX9_letter_41 : decode cX9_letter 41 = .ok (.getfield 142, 3) := by decide +kernel
theorem dX9_letter_44 : decode cX9_letter 44 = .ok (.bipush 100, 2) := by decide +kernel
theorem dX9_letter_46 : decode cX9_letter 46 = .ok (.if_icmp .lt 5, 3) := by decide +kernel
theorem dX9_letter_49 : decode cX9_letter 49 = .ok (.iconst (-1), 1) := by decide +kernel
theorem dX9_letter_50 : decode cX9_letter 50 = .ok (.ireturn, 1) := by decide +kernel
theorem dX9_letter_51 : decode cX9_letter 51 = .ok (.aload_n 0, 1) := by decide +kernel
theorem dX9_letter_52 : decode cX9_letter 52 = .ok (.getfield 19, 3) := by decide +kernel
theorem dX9_letter_55 : decode cX9_letter 55 = .ok (.iload_n 1, 1) := by decide +kernel
theorem dX9_letter_56 : decode cX9_letter 56 = .ok (.iload_n 2, 1) := by decide +kernel
theorem dX9_letter_57 : decode cX9_letter 57 = .ok (.iload_n 3, 1) := by decide +kernel
theorem dX9_letter_58 : decode cX9_letter 58 = .ok (.invokevirtual 143, 3) := by decide +kernel
theorem dX9_letter_61 : decode cX9_letter 61 = .ok (.ireturn, 1) := by decide +kernel
theorem dX9_weight_0 : decode cX9_weight 0 = .ok (.iload_n 1, 1) := by decide +kernel
theorem dX9_weight_1 : decode cX9_weight 1 = .ok (.invokestatic 139, 3) := by decide +kernel
theorem dX9_weight_4 : decode cX9_weight 4 = .ok (.ifCond .eq 14, 3) := by decide +kernel
theorem dX9_weight_7 : decode cX9_weight 7 = .ok (.aload_n 0, 1) := by decide +kernel
theorem dX9_weight_8 : decode cX9_weight 8 = .ok (.getfield 19, 3) := by decide +kernel
theorem dX9_weight_11 : decode cX9_weight 11 = .ok (.iload_n 1, 1) := by decide +kernel
theorem dX9_weight_12 : decode cX9_weight 12 = .ok (.invokevirtual 144, 3) := by decide +kernel
theorem dX9_weight_15 : decode cX9_weight 15 = .ok (.goto 4, 3) := by decide +kernel
theorem dX9_weight_18 : decode cX9_weight 18 = .ok (.iconst (-1), 1) := by decide +kernel
theorem dX9_weight_19 : decode cX9_weight 19 = .ok (.ireturn, 1) := by decide +kernel
theorem dX9_believed_0 : decode cX9_believed 0 = .ok (.aload_n 0, 1) := by decide +kernel
theorem dX9_believed_1 : decode cX9_believed 1 = .ok (.getfield 12, 3) := by decide +kernel
theorem dX9_believed_4 : decode cX9_believed 4 = .ok (.iload_n 1, 1) := by decide +kernel
theorem dX9_believed_5 : decode cX9_believed 5 = .ok (.invokevirtual 107, 3) := by decide +kernel
theorem dX9_believed_8 : decode cX9_believed 8 = .ok (.ifCond .eq 11, 3) := by decide +kernel
theorem dX9_believed_11 : decode cX9_believed 11 = .ok (.aload_n 0, 1) := by decide +kernel
theorem dX9_believed_12 : decode cX9_believed 12 = .ok (.iload_n 1, 1) := by decide +kernel
theorem dX9_believed_13 : decode cX9_believed 13 = .ok (.invokevirtual 147, 3) := by decide +kernel
theorem dX9_believed_16 : decode cX9_believed 16 = .ok (.goto 4, 3) := by decide +kernel
theorem dX9_believed_19 : decode cX9_believed 19 = .ok (.iconst (-1), 1) := by decide +kernel
theorem dX9_believed_20 : decode cX9_believed 20 = .ok (.ireturn, 1) := by decide +kernel
theorem dX9_quarrel_0 : decode cX9_quarrel 0 = .ok (.aload_n 0, 1) := by decide +kernel
theorem dX9_quarrel_1 : decode cX9_quarrel 1 = .ok (.getfield 12, 3) := by decide +kernel
theorem dX9_quarrel_4 : decode cX9_quarrel 4 = .ok (.iload_n 1, 1) := by decide +kernel
theorem dX9_quarrel_5 : decode cX9_quarrel 5 = .ok (.invokevirtual 107, 3) := by decide +kernel
theorem dX9_quarrel_8 : decode cX9_quarrel 8 = .ok (.ifCond .ne 5, 3) := by decide +kernel
theorem dX9_quarrel_11 : decode cX9_quarrel 11 = .ok (.iconst (-1), 1) := by decide +kernel
theorem dX9_quarrel_12 : decode cX9_quarrel 12 = .ok (.ireturn, 1) := by decide +kernel
theorem dX9_quarrel_13 : decode cX9_quarrel 13 = .ok (.aload_n 0, 1) := by decide +kernel
theorem dX9_quarrel_14 : decode cX9_quarrel 14 = .ok (.getfield 19, 3) := by decide +kernel
theorem dX9_quarrel_17 : decode cX9_quarrel 17 = .ok (.iload_n 1, 1) := by decide +kernel
theorem dX9_quarrel_18 : decode cX9_quarrel 18 = .ok (.invokevirtual 150, 3) := by decide +kernel
theorem dX9_quarrel_21 : decode cX9_quarrel 21 = .ok (.ifCond .eq 7, 3) := by decide +kernel
theorem dX9_quarrel_24 : decode cX9_quarrel 24 = .ok (.iconst 1, 1) := by decide +kernel
theorem dX9_quarrel_25 : decode cX9_quarrel 25 = .ok (.goto 4, 3) := by decide +kernel
theorem dX9_quarrel_28 : decode cX9_quarrel 28 = .ok (.iconst 0, 1) := by decide +kernel
theorem dX9_quarrel_29 : decode cX9_quarrel 29 = .ok (.ireturn, 1) := by decide +kernel
theorem dX9_proof_0 : decode cX9_proof 0 = .ok (.aload_n 0, 1) := by decide +kernel
theorem dX9_proof_1 : decode cX9_proof 1 = .ok (.getfield 19, 3) := by decide +kernel
theorem dX9_proof_4 : decode cX9_proof 4 = .ok (.iload_n 1, 1) := by decide +kernel
theorem dX9_proof_5 : decode cX9_proof 5 = .ok (.invokevirtual 153, 3) := by decide +kernel
theorem dX9_proof_8 : decode cX9_proof 8 = .ok (.ifCond .eq 15, 3) := by decide +kernel
theorem dX9_proof_11 : decode cX9_proof 11 = .ok (.aload_n 0, 1) := by decide +kernel
theorem dX9_proof_12 : decode cX9_proof 12 = .ok (.getfield 19, 3) := by decide +kernel
theorem dX9_proof_15 : decode cX9_proof 15 = .ok (.getfield 154, 3) := by decide +kernel
theorem dX9_proof_18 : decode cX9_proof 18 = .ok (.iload_n 1, 1) := by decide +kernel
theorem dX9_proof_19 : decode cX9_proof 19 = .ok (.iaload, 1) := by decide +kernel
theorem dX9_proof_20 : decode cX9_proof 20 = .ok (.goto 4, 3) := by decide +kernel
theorem dX9_proof_23 : decode cX9_proof 23 = .ok (.iconst (-1), 1) := by decide +kernel
theorem dX9_proof_24 : decode cX9_proof 24 = .ok (.ireturn, 1) := by decide +kernel
theorem dX9_mark_0 : decode cX9_mark 0 = .ok (.iload_n 1, 1) := by decide +kernel
theorem dX9_mark_1 : decode cX9_mark 1 = .ok (.invokestatic 94, 3) := by decide +kernel
theorem dX9_mark_4 : decode cX9_mark 4 = .ok (.ifCond .eq 19, 3) := by decide +kernel
theorem dX9_mark_7 : decode cX9_mark 7 = .ok (.iload_n 2, 1) := by decide +kernel
theorem dX9_mark_8 : decode cX9_mark 8 = .ok (.invokestatic 157, 3) := by decide +kernel
theorem dX9_mark_11 : decode cX9_mark 11 = .ok (.ifCond .eq 12, 3) := by decide +kernel
theorem dX9_mark_14 : decode cX9_mark 14 = .ok (.iload_n 3, 1) := by decide +kernel
theorem dX9_mark_15 : decode cX9_mark 15 = .ok (.bipush 100, 2) := by decide +kernel
theorem dX9_mark_17 : decode cX9_mark 17 = .ok (.invokestatic 82, 3) := by decide +kernel
theorem dX9_mark_20 : decode cX9_mark 20 = .ok (.ifCond .ne 5, 3) := by decide +kernel
theorem dX9_mark_23 : decode cX9_mark 23 = .ok (.iconst 0, 1) := by decide +kernel
theorem dX9_mark_24 : decode cX9_mark 24 = .ok (.ireturn, 1) := by decide +kernel
theorem dX9_mark_25 : decode cX9_mark 25 = .ok (.aload_n 0, 1) := by decide +kernel
theorem dX9_mark_26 : decode cX9_mark 26 = .ok (.getfield 26, 3) := by decide +kernel
theorem dX9_mark_29 : decode cX9_mark 29 = .ok (.getfield 160, 3) := by decide +kernel
theorem dX9_mark_32 : decode cX9_mark 32 = .ok (.iload_n 1, 1) := by decide +kernel
theorem dX9_mark_33 : decode cX9_mark 33 = .ok (.aaload, 1) := by decide +kernel
theorem dX9_mark_34 : decode cX9_mark 34 = .ok (.iload_n 2, 1) := by decide +kernel
theorem dX9_mark_35 : decode cX9_mark 35 = .ok (.iload_n 3, 1) := by decide +kernel
theorem dX9_mark_36 : decode cX9_mark 36 = .ok (.iastore, 1) := by decide +kernel
theorem dX9_mark_37 : decode cX9_mark 37 = .ok (.iconst 1, 1) := by decide +kernel
theorem dX9_mark_38 : decode cX9_mark 38 = .ok (.ireturn, 1) := by decide +kernel
theorem dX9_shift_0 : decode cX9_shift 0 = .ok (.iload_n 1, 1) := by decide +kernel
theorem dX9_shift_1 : decode cX9_shift 1 = .ok (.invokestatic 157, 3) := by decide +kernel
theorem dX9_shift_4 : decode cX9_shift 4 = .ok (.ifCond .ne 13, 3) := by decide +kernel
theorem dX9_shift_7 : decode cX9_shift 7 = .ok (.new 164, 3) := by decide +kernel
theorem dX9_shift_10 : decode cX9_shift 10 = .ok (.dup, 1) := by decide +kernel
theorem dX9_shift_11 : decode cX9_shift 11 = .ok (.ldc 166, 2) := by decide +kernel
theorem dX9_shift_13 : decode cX9_shift 13 = .ok (.invokespecial 168, 3) := by decide +kernel
theorem dX9_shift_16 : decode cX9_shift 16 = .ok (.athrow, 1) := by decide +kernel
theorem dX9_shift_17 : decode cX9_shift 17 = .ok (.aload_n 0, 1) := by decide +kernel
theorem dX9_shift_18 : decode cX9_shift 18 = .ok (.getfield 26, 3) := by decide +kernel
theorem dX9_shift_21 : decode cX9_shift 21 = .ok (.iload_n 1, 1) := by decide +kernel
theorem dX9_shift_22 : decode cX9_shift 22 = .ok (.invokevirtual 171, 3) := by decide +kernel
theorem dX9_shift_25 : decode cX9_shift 25 = .ok (.ireturn, 1) := by decide +kernel
theorem dX9_paid_0 : decode cX9_paid 0 = .ok (.iload_n 1, 1) := by decide +kernel
theorem dX9_paid_1 : decode cX9_paid 1 = .ok (.invokestatic 94, 3) := by decide +kernel
theorem dX9_paid_4 : decode cX9_paid 4 = .ok (.ifCond .ne 5, 3) := by decide +kernel
theorem dX9_paid_7 : decode cX9_paid 7 = .ok (.iconst 0, 1) := by decide +kernel
theorem dX9_paid_8 : decode cX9_paid 8 = .ok (.ireturn, 1) := by decide +kernel
theorem dX9_paid_9 : decode cX9_paid 9 = .ok (.aload_n 0, 1) := by decide +kernel
theorem dX9_paid_10 : decode cX9_paid 10 = .ok (.getfield 69, 3) := by decide +kernel
theorem dX9_paid_13 : decode cX9_paid 13 = .ok (.iload_n 1, 1) := by decide +kernel
theorem dX9_paid_14 : decode cX9_paid 14 = .ok (.iload_n 2, 1) := by decide +kernel
theorem dX9_paid_15 : decode cX9_paid 15 = .ok (.bastore, 1) := by decide +kernel
theorem dX9_paid_16 : decode cX9_paid 16 = .ok (.iconst 1, 1) := by decide +kernel
theorem dX9_paid_17 : decode cX9_paid 17 = .ok (.ireturn, 1) := by decide +kernel
theorem dX9_feed_0 : decode cX9_feed 0 = .ok (.aload_n 0, 1) := by decide +kernel
theorem dX9_feed_1 : decode cX9_feed 1 = .ok (.getfield 33, 3) := by decide +kernel
theorem dX9_feed_4 : decode cX9_feed 4 = .ok (.lload_n 1, 1) := by decide +kernel
theorem dX9_feed_5 : decode cX9_feed 5 = .ok (.invokevirtual 174, 3) := by decide +kernel
theorem dX9_feed_8 : decode cX9_feed 8 = .ok (.aload_n 0, 1) := by decide +kernel
theorem dX9_feed_9 : decode cX9_feed 9 = .ok (.getfield 33, 3) := by decide +kernel
theorem dX9_feed_12 : decode cX9_feed 12 = .ok (.lload_n 3, 1) := by decide +kernel
theorem dX9_feed_13 : decode cX9_feed 13 = .ok (.invokevirtual 174, 3) := by decide +kernel
theorem dX9_feed_16 : decode cX9_feed 16 = .ok (.aload_n 0, 1) := by decide +kernel
theorem dX9_feed_17 : decode cX9_feed 17 = .ok (.getfield 33, 3) := by decide +kernel
theorem dX9_feed_20 : decode cX9_feed 20 = .ok (.lload 5, 2) := by decide +kernel
theorem dX9_feed_22 : decode cX9_feed 22 = .ok (.invokevirtual 174, 3) := by decide +kernel
theorem dX9_feed_25 : decode cX9_feed 25 = .ok (.aload_n 0, 1) := by decide +kernel
theorem dX9_feed_26 : decode cX9_feed 26 = .ok (.getfield 33, 3) := by decide +kernel
theorem dX9_feed_29 : decode cX9_feed 29 = .ok (.getfield 178, 3) := by decide +kernel
theorem dX9_feed_32 : decode cX9_feed 32 = .ok (.ireturn, 1) := by decide +kernel
theorem dX9_text_0 : decode cX9_text 0 = .ok (.aload_n 0, 1) := by decide +kernel
theorem dX9_text_1 : decode cX9_text 1 = .ok (.getfield 40, 3) := by decide +kernel
theorem dX9_text_4 : decode cX9_text 4 = .ok (.aload_n 0, 1) := by decide +kernel
theorem dX9_text_5 : decode cX9_text 5 = .ok (.getfield 33, 3) := by decide +kernel
theorem dX9_text_8 : decode cX9_text 8 = .ok (.invokevirtual 180, 3) := by decide +kernel
theorem dX9_text_11 : decode cX9_text 11 = .ok (.istore_n 1, 1) := by decide +kernel
theorem dX9_text_12 : decode cX9_text 12 = .ok (.aload_n 0, 1) := by decide +kernel
theorem dX9_text_13 : decode cX9_text 13 = .ok (.getfield 33, 3) := by decide +kernel
theorem dX9_text_16 : decode cX9_text 16 = .ok (.iconst 0, 1) := by decide +kernel
theorem dX9_text_17 : decode cX9_text 17 = .ok (.putfield 178, 3) := by decide +kernel
theorem dX9_text_20 : decode cX9_text 20 = .ok (.iload_n 1, 1) := by decide +kernel
theorem dX9_text_21 : decode cX9_text 21 = .ok (.ifCond .ne 17, 3) := by decide +kernel
theorem dX9_text_24 : decode cX9_text 24 = .ok (.aload_n 0, 1) := by decide +kernel
theorem dX9_text_25 : decode cX9_text 25 = .ok (.getfield 47, 3) := by decide +kernel
theorem dX9_text_28 : decode cX9_text 28 = .ok (.aload_n 0, 1) := by decide +kernel
theorem dX9_text_29 : decode cX9_text 29 = .ok (.getfield 40, 3) := by decide +kernel
theorem dX9_text_32 : decode cX9_text 32 = .ok (.getfield 184, 3) := by decide +kernel
theorem dX9_text_35 : decode cX9_text 35 = .ok (.invokevirtual 187, 3) := by decide +kernel
theorem dX9_text_38 : decode cX9_text 38 = .ok (.iload_n 1, 1) := by decide +kernel
theorem dX9_text_39 : decode cX9_text 39 = .ok (.ireturn, 1) := by decide +kernel
theorem dX9_stars_0 : decode cX9_stars 0 = .ok (.iload_n 1, 1) := by decide +kernel
theorem dX9_stars_1 : decode cX9_stars 1 = .ok (.invokestatic 94, 3) := by decide +kernel
theorem dX9_stars_4 : decode cX9_stars 4 = .ok (.ifCond .eq 11, 3) := by decide +kernel
theorem dX9_stars_7 : decode cX9_stars 7 = .ok (.aload_n 0, 1) := by decide +kernel
theorem dX9_stars_8 : decode cX9_stars 8 = .ok (.iload_n 1, 1) := by decide +kernel
theorem dX9_stars_9 : decode cX9_stars 9 = .ok (.invokevirtual 191, 3) := by decide +kernel
theorem dX9_stars_12 : decode cX9_stars 12 = .ok (.goto 4, 3) := by decide +kernel
theorem dX9_stars_15 : decode cX9_stars 15 = .ok (.iconst (-1), 1) := by decide +kernel
theorem dX9_stars_16 : decode cX9_stars 16 = .ok (.ireturn, 1) := by decide +kernel
theorem dX9_number_0 : decode cX9_number 0 = .ok (.aload_n 0, 1) := by decide +kernel
theorem dX9_number_1 : decode cX9_number 1 = .ok (.getfield 12, 3) := by decide +kernel
theorem dX9_number_4 : decode cX9_number 4 = .ok (.iload_n 1, 1) := by decide +kernel
theorem dX9_number_5 : decode cX9_number 5 = .ok (.invokevirtual 107, 3) := by decide +kernel
theorem dX9_number_8 : decode cX9_number 8 = .ok (.ifCond .eq 12, 3) := by decide +kernel
theorem dX9_number_11 : decode cX9_number 11 = .ok (.iload_n 2, 1) := by decide +kernel
theorem dX9_number_12 : decode cX9_number 12 = .ok (.bipush 99, 2) := by decide +kernel
theorem dX9_number_14 : decode cX9_number 14 = .ok (.invokestatic 82, 3) := by decide +kernel
theorem dX9_number_17 : decode cX9_number 17 = .ok (.ifCond .ne 5, 3) := by decide +kernel
theorem dX9_number_20 : decode cX9_number 20 = .ok (.iconst (-1), 1) := by decide +kernel
theorem dX9_number_21 : decode cX9_number 21 = .ok (.ireturn, 1) := by decide +kernel
theorem dX9_number_22 : decode cX9_number 22 = .ok (.aload_n 0, 1) := by decide +kernel
theorem dX9_number_23 : decode cX9_number 23 = .ok (.aload_n 0, 1) := by decide +kernel
theorem dX9_number_24 : decode cX9_number 24 = .ok (.getfield 12, 3) := by decide +kernel
theorem dX9_number_27 : decode cX9_number 27 = .ok (.getfield 194, 3) := by decide +kernel
theorem dX9_number_30 : decode cX9_number 30 = .ok (.iload_n 1, 1) := by decide +kernel
theorem dX9_number_31 : decode cX9_number 31 = .ok (.iaload, 1) := by decide +kernel
theorem dX9_number_32 : decode cX9_number 32 = .ok (.iload_n 2, 1) := by decide +kernel
theorem dX9_number_33 : decode cX9_number 33 = .ok (.invokevirtual 197, 3) := by decide +kernel
theorem dX9_number_36 : decode cX9_number 36 = .ok (.lstore_n 3, 1) := by decide +kernel
theorem dX9_number_37 : decode cX9_number 37 = .ok (.lload_n 3, 1) := by decide +kernel
theorem dX9_number_38 : decode cX9_number 38 = .ok (.lconst 1, 1) := by decide +kernel
theorem dX9_number_39 : decode cX9_number 39 = .ok (.iload_n 1, 1) := by decide +kernel
theorem dX9_number_40 : decode cX9_number 40 = .ok (.lshl, 1) := by decide +kernel
theorem dX9_number_41 : decode cX9_number 41 = .ok (.land, 1) := by decide +kernel
theorem dX9_number_42 : decode cX9_number 42 = .ok (.lconst 0, 1) := by decide +kernel
theorem dX9_number_43 : decode cX9_number 43 = .ok (.lcmp, 1) := by decide +kernel
theorem dX9_number_44 : decode cX9_number 44 = .ok (.ifCond .ne 5, 3) := by decide +kernel
theorem dX9_number_47 : decode cX9_number 47 = .ok (.iconst 0, 1) := by decide +kernel
theorem dX9_number_48 : decode cX9_number 48 = .ok (.ireturn, 1) := by decide +kernel
theorem dX9_number_49 : decode cX9_number 49 = .ok (.ldc2_w 201, 3) := by decide +kernel
theorem dX9_number_52 : decode cX9_number 52 = .ok (.iload_n 1, 1) := by decide +kernel
theorem dX9_number_53 : decode cX9_number 53 = .ok (.lshl, 1) := by decide +kernel
theorem dX9_number_54 : decode cX9_number 54 = .ok (.lconst 1, 1) := by decide +kernel
theorem dX9_number_55 : decode cX9_number 55 = .ok (.lsub, 1) := by decide +kernel
theorem dX9_number_56 : decode cX9_number 56 = .ok (.lstore 5, 2) := by decide +kernel
theorem dX9_number_58 : decode cX9_number 58 = .ok (.lload_n 3, 1) := by decide +kernel
theorem dX9_number_59 : decode cX9_number 59 = .ok (.lload 5, 2) := by decide +kernel
theorem dX9_number_61 : decode cX9_number 61 = .ok (.land, 1) := by decide +kernel
theorem dX9_number_62 : decode cX9_number 62 = .ok (.invokestatic 203, 3) := by decide +kernel
theorem dX9_number_65 : decode cX9_number 65 = .ok (.ireturn, 1) := by decide +kernel
theorem dX9_edition_0 : decode cX9_edition 0 = .ok (.aload_n 0, 1) := by decide +kernel
theorem dX9_edition_1 : decode cX9_edition 1 = .ok (.getfield 54, 3) := by decide +kernel
theorem dX9_edition_4 : decode cX9_edition 4 = .ok (.getfield 208, 3) := by decide +kernel
theorem dX9_edition_7 : decode cX9_edition 7 = .ok (.bipush 10, 2) := by decide +kernel
theorem dX9_edition_9 : decode cX9_edition 9 = .ok (.if_icmp .lt 5, 3) := by decide +kernel
theorem dX9_edition_12 : decode cX9_edition 12 = .ok (.iconst (-1), 1) := by decide +kernel
theorem dX9_edition_13 : decode cX9_edition 13 = .ok (.ireturn, 1) := by decide +kernel
theorem dX9_edition_14 : decode cX9_edition 14 = .ok (.aload_n 0, 1) := by decide +kernel
theorem dX9_edition_15 : decode cX9_edition 15 = .ok (.getfield 54, 3) := by decide +kernel
theorem dX9_edition_18 : decode cX9_edition 18 = .ok (.aload_n 0, 1) := by decide +kernel
theorem dX9_edition_19 : decode cX9_edition 19 = .ok (.getfield 12, 3) := by decide +kernel
theorem dX9_edition_22 : decode cX9_edition 22 = .ok (.getfield 100, 3) := by decide +kernel
theorem dX9_edition_25 : decode cX9_edition 25 = .ok (.invokevirtual 209, 3) := by decide +kernel
theorem dX9_edition_28 : decode cX9_edition 28 = .ok (.istore_n 1, 1) := by decide +kernel
theorem dX9_edition_29 : decode cX9_edition 29 = .ok (.iconst 0, 1) := by decide +kernel
theorem dX9_edition_30 : decode cX9_edition 30 = .ok (.istore_n 2, 1) := by decide +kernel
theorem dX9_edition_31 : decode cX9_edition 31 = .ok (.iload_n 2, 1) := by decide +kernel
theorem dX9_edition_32 : decode cX9_edition 32 = .ok (.aload_n 0, 1) := by decide +kernel
theorem dX9_edition_33 : decode cX9_edition 33 = .ok (.getfield 12, 3) := by decide +kernel
theorem dX9_edition_36 : decode cX9_edition 36 = .ok (.getfield 100, 3) := by decide +kernel
theorem dX9_edition_39 : decode cX9_edition 39 = .ok (.if_icmp .ge 25, 3) := by decide +kernel
theorem dX9_edition_42 : decode cX9_edition 42 = .ok (.aload_n 0, 1) := by decide +kernel
theorem dX9_edition_43 : decode cX9_edition 43 = .ok (.getfield 54, 3) := by decide +kernel
theorem dX9_edition_46 : decode cX9_edition 46 = .ok (.getfield 212, 3) := by decide +kernel
theorem dX9_edition_49 : decode cX9_edition 49 = .ok (.iload_n 1, 1) := by decide +kernel
theorem dX9_edition_50 : decode cX9_edition 50 = .ok (.aaload, 1) := by decide +kernel
theorem dX9_edition_51 : decode cX9_edition 51 = .ok (.iload_n 2, 1) := by decide +kernel
theorem dX9_edition_52 : decode cX9_edition 52 = .ok (.aload_n 0, 1) := by decide +kernel
theorem dX9_edition_53 : decode cX9_edition 53 = .ok (.iload_n 2, 1) := by decide +kernel
theorem dX9_edition_54 : decode cX9_edition 54 = .ok (.invokevirtual 147, 3) := by decide +kernel
theorem dX9_edition_57 : decode cX9_edition 57 = .ok (.iastore, 1) := by decide +kernel
theorem dX9_edition_58 : decode cX9_edition 58 = .ok (.iinc 2 1, 3) := by decide +kernel
theorem dX9_edition_61 : decode cX9_edition 61 = .ok (.goto (-30), 3) := by decide +kernel
theorem dX9_edition_64 : decode cX9_edition 64 = .ok (.iconst 0, 1) := by decide +kernel
theorem dX9_edition_65 : decode cX9_edition 65 = .ok (.istore_n 2, 1) := by decide +kernel
theorem dX9_edition_66 : decode cX9_edition 66 = .ok (.iload_n 2, 1) := by decide +kernel
theorem dX9_edition_67 : decode cX9_edition 67 = .ok (.bipush 10, 2) := by decide +kernel
theorem dX9_edition_69 : decode cX9_edition 69 = .ok (.if_icmp .ge 25, 3) := by decide +kernel
theorem dX9_edition_72 : decode cX9_edition 72 = .ok (.aload_n 0, 1) := by decide +kernel
theorem dX9_edition_73 : decode cX9_edition 73 = .ok (.getfield 54, 3) := by decide +kernel
theorem dX9_edition_76 : decode cX9_edition 76 = .ok (.getfield 215, 3) := by decide +kernel
theorem dX9_edition_79 : decode cX9_edition 79 = .ok (.iload_n 1, 1) := by decide +kernel
theorem dX9_edition_80 : decode cX9_edition 80 = .ok (.aaload, 1) := by decide +kernel
theorem dX9_edition_81 : decode cX9_edition 81 = .ok (.iload_n 2, 1) := by decide +kernel
theorem dX9_edition_82 : decode cX9_edition 82 = .ok (.aload_n 0, 1) := by decide +kernel
theorem dX9_edition_83 : decode cX9_edition 83 = .ok (.iload_n 2, 1) := by decide +kernel
theorem dX9_edition_84 : decode cX9_edition 84 = .ok (.invokevirtual 191, 3) := by decide +kernel
theorem dX9_edition_87 : decode cX9_edition 87 = .ok (.iastore, 1) := by decide +kernel
theorem dX9_edition_88 : decode cX9_edition 88 = .ok (.iinc 2 1, 3) := by decide +kernel
theorem dX9_edition_91 : decode cX9_edition 91 = .ok (.goto (-25), 3) := by decide +kernel
theorem dX9_edition_94 : decode cX9_edition 94 = .ok (.iload_n 1, 1) := by decide +kernel
theorem dX9_edition_95 : decode cX9_edition 95 = .ok (.ireturn, 1) := by decide +kernel
theorem dX9_printed_0 : decode cX9_printed 0 = .ok (.aload_n 0, 1) := by decide +kernel
theorem dX9_printed_1 : decode cX9_printed 1 = .ok (.getfield 54, 3) := by decide +kernel
theorem dX9_printed_4 : decode cX9_printed 4 = .ok (.iload_n 1, 1) := by decide +kernel
theorem dX9_printed_5 : decode cX9_printed 5 = .ok (.invokevirtual 218, 3) := by decide +kernel
theorem dX9_printed_8 : decode cX9_printed 8 = .ok (.ifCond .ne 5, 3) := by decide +kernel
theorem dX9_printed_11 : decode cX9_printed 11 = .ok (.iconst (-1), 1) := by decide +kernel
theorem dX9_printed_12 : decode cX9_printed 12 = .ok (.ireturn, 1) := by decide +kernel
theorem dX9_printed_13 : decode cX9_printed 13 = .ok (.iload_n 2, 1) := by decide +kernel
theorem dX9_printed_14 : decode cX9_printed 14 = .ok (.ifCond .ne 27, 3) := by decide +kernel
theorem dX9_printed_17 : decode cX9_printed 17 = .ok (.aload_n 0, 1) := by decide +kernel
theorem dX9_printed_18 : decode cX9_printed 18 = .ok (.getfield 54, 3) := by decide +kernel
theorem dX9_printed_21 : decode cX9_printed 21 = .ok (.iload_n 1, 1) := by decide +kernel
theorem dX9_printed_22 : decode cX9_printed 22 = .ok (.iload_n 3, 1) := by decide +kernel
theorem dX9_printed_23 : decode cX9_printed 23 = .ok (.invokevirtual 219, 3) := by decide +kernel
theorem dX9_printed_26 : decode cX9_printed 26 = .ok (.ifCond .eq 15, 3) := by decide +kernel
theorem dX9_printed_29 : decode cX9_printed 29 = .ok (.aload_n 0, 1) := by decide +kernel
theorem dX9_printed_30 : decode cX9_printed 30 = .ok (.getfield 54, 3) := by decide +kernel
theorem dX9_printed_33 : decode cX9_printed 33 = .ok (.getfield 212, 3) := by decide +kernel
theorem dX9_printed_36 : decode cX9_printed 36 = .ok (.iload_n 1, 1) := by decide +kernel
theorem dX9_printed_37 : decode cX9_printed 37 = .ok (.aaload, 1) := by decide +kernel
theorem dX9_printed_38 : decode cX9_printed 38 = .ok (.iload_n 3, 1) := by decide +kernel
theorem dX9_printed_39 : decode cX9_printed 39 = .ok (.iaload, 1) := by decide +kernel
theorem dX9_printed_40 : decode cX9_printed 40 = .ok (.ireturn, 1) := by decide +kernel
theorem dX9_printed_41 : decode cX9_printed 41 = .ok (.iload_n 2, 1) := by decide +kernel
theorem dX9_printed_42 : decode cX9_printed 42 = .ok (.iconst 1, 1) := by decide +kernel
theorem dX9_printed_43 : decode cX9_printed 43 = .ok (.if_icmp .ne 22, 3) := by decide +kernel
theorem dX9_printed_46 : decode cX9_printed 46 = .ok (.iload_n 3, 1) := by decide +kernel
theorem dX9_printed_47 : decode cX9_printed 47 = .ok (.invokestatic 94, 3) := by decide +kernel
theorem dX9_printed_50 : decode cX9_printed 50 = .ok (.ifCond .eq 15, 3) := by decide +kernel
theorem dX9_printed_53 : decode cX9_printed 53 = .ok (.aload_n 0, 1) := by decide +kernel
theorem dX9_printed_54 : decode cX9_printed 54 = .ok (.getfield 54, 3) := by decide +kernel
theorem dX9_printed_57 : decode cX9_printed 57 = .ok (.getfield 215, 3) := by decide +kernel
theorem dX9_printed_60 : decode cX9_printed 60 = .ok (.iload_n 1, 1) := by decide +kernel
theorem dX9_printed_61 : decode cX9_printed 61 = .ok (.aaload, 1) := by decide +kernel
theorem dX9_printed_62 : decode cX9_printed 62 = .ok (.iload_n 3, 1) := by decide +kernel
theorem dX9_printed_63 : decode cX9_printed 63 = .ok (.iaload, 1) := by decide +kernel
theorem dX9_printed_64 : decode cX9_printed 64 = .ok (.ireturn, 1) := by decide +kernel
theorem dX9_printed_65 : decode cX9_printed 65 = .ok (.iconst (-1), 1) := by decide +kernel
theorem dX9_printed_66 : decode cX9_printed 66 = .ok (.ireturn, 1) := by decide +kernel
theorem dX9_errors_0 : decode cX9_errors 0 = .ok (.iload_n 2, 1) := by decide +kernel
theorem dX9_errors_1 : decode cX9_errors 1 = .ok (.iconst (-1), 1) := by decide +kernel
theorem dX9_errors_2 : decode cX9_errors 2 = .ok (.if_icmp .ne 7, 3) := by decide +kernel
theorem dX9_errors_5 : decode cX9_errors 5 = .ok (.iconst 1, 1) := by decide +kernel
theorem dX9_errors_6 : decode cX9_errors 6 = .ok (.goto 4, 3) := by decide +kernel
theorem dX9_errors_9 : decode cX9_errors 9 = .ok (.iconst 0, 1) := by decide +kernel
theorem dX9_errors_10 : decode cX9_errors 10 = .ok (.istore_n 3, 1) := by decide +kernel
theorem dX9_errors_11 : decode cX9_errors 11 = .ok (.aload_n 0, 1) := by decide +kernel
theorem dX9_errors_12 : decode cX9_errors 12 = .ok (.getfield 54, 3) := by decide +kernel
theorem dX9_errors_15 : decode cX9_errors 15 = .ok (.iload_n 1, 1) := by decide +kernel
theorem dX9_errors_16 : decode cX9_errors 16 = .ok (.invokevirtual 218, 3) := by decide +kernel
theorem dX9_errors_19 : decode cX9_errors 19 = .ok (.ifCond .eq 14, 3) := by decide +kernel
theorem dX9_errors_22 : decode cX9_errors 22 = .ok (.iload_n 3, 1) := by decide +kernel
theorem dX9_errors_23 : decode cX9_errors 23 = .ok (.ifCond .ne 12, 3) := by decide +kernel
theorem dX9_errors_26 : decode cX9_errors 26 = .ok (.iload_n 2, 1) := by decide +kernel
theorem dX9_errors_27 : decode cX9_errors 27 = .ok (.invokestatic 90, 3) := by decide +kernel
theorem dX9_errors_30 : decode cX9_errors 30 = .ok (.ifCond .ne 5, 3) := by decide +kernel
theorem dX9_errors_33 : decode cX9_errors 33 = .ok (.iconst (-1), 1) := by decide +kernel
theorem dX9_errors_34 : decode cX9_errors 34 = .ok (.ireturn, 1) := by decide +kernel
theorem dX9_errors_35 : decode cX9_errors 35 = .ok (.iconst 0, 1) := by decide +kernel
theorem dX9_errors_36 : decode cX9_errors 36 = .ok (.istore 4, 2) := by decide +kernel
theorem dX9_errors_38 : decode cX9_errors 38 = .ok (.iconst 0, 1) := by decide +kernel
theorem dX9_errors_39 : decode cX9_errors 39 = .ok (.istore 5, 2) := by decide +kernel
theorem dX9_errors_41 : decode cX9_errors 41 = .ok (.iload 5, 2) := by decide +kernel
theorem dX9_errors_43 : decode cX9_errors 43 = .ok (.aload_n 0, 1) := by decide +kernel
theorem dX9_errors_44 : decode cX9_errors 44 = .ok (.getfield 54, 3) := by decide +kernel
theorem dX9_errors_47 : decode cX9_errors 47 = .ok (.getfield 222, 3) := by decide +kernel
theorem dX9_errors_50 : decode cX9_errors 50 = .ok (.iload_n 1, 1) := by decide +kernel
theorem dX9_errors_51 : decode cX9_errors 51 = .ok (.iaload, 1) := by decide +kernel
theorem dX9_errors_52 : decode cX9_errors 52 = .ok (.if_icmp .ge 58, 3) := by decide +kernel
theorem dX9_errors_55 : decode cX9_errors 55 = .ok (.iload_n 3, 1) := by decide +kernel
theorem dX9_errors_56 : decode cX9_errors 56 = .ok (.ifCond .ne 17, 3) := by decide +kernel
theorem dX9_errors_59 : decode cX9_errors 59 = .ok (.aload_n 0, 1) := by decide +kernel
theorem dX9_errors_60 : decode cX9_errors 60 = .ok (.getfield 12, 3) := by decide +kernel
theorem dX9_errors_63 : decode cX9_errors 63 = .ok (.getfield 224, 3) := by decide +kernel
theorem dX9_errors_66 : decode cX9_errors 66 = .ok (.iload 5, 2) := by decide +kernel
theorem dX9_errors_68 : decode cX9_errors 68 = .ok (.iaload, 1) := by decide +kernel
theorem dX9_errors_69 : decode cX9_errors 69 = .ok (.iload_n 2, 1) := by decide +kernel
theorem dX9_errors_70 : decode cX9_errors 70 = .ok (.if_icmp .ne 7, 3) := by decide +kernel
theorem dX9_errors_73 : decode cX9_errors 73 = .ok (.iconst 1, 1) := by decide +kernel
theorem dX9_errors_74 : decode cX9_errors 74 = .ok (.goto 4, 3) := by decide +kernel
theorem dX9_errors_77 : decode cX9_errors 77 = .ok (.iconst 0, 1) := by decide +kernel
theorem dX9_errors_78 : decode cX9_errors 78 = .ok (.istore 6, 2) := by decide +kernel
theorem dX9_errors_80 : decode cX9_errors 80 = .ok (.iload 6, 2) := by decide +kernel
theorem dX9_errors_82 : decode cX9_errors 82 = .ok (.ifCond .eq 22, 3) := by decide +kernel
theorem dX9_errors_85 : decode cX9_errors 85 = .ok (.aload_n 0, 1) := by decide +kernel
theorem dX9_errors_86 : decode cX9_errors 86 = .ok (.getfield 54, 3) := by decide +kernel
theorem dX9_errors_89 : decode cX9_errors 89 = .ok (.getfield 227, 3) := by decide +kernel
theorem dX9_errors_92 : decode cX9_errors 92 = .ok (.iload_n 1, 1) := by decide +kernel
theorem dX9_errors_93 : decode cX9_errors 93 = .ok (.aaload, 1) := by decide +kernel
theorem dX9_errors_94 : decode cX9_errors 94 = .ok (.iload 5, 2) := by decide +kernel
theorem dX9_errors_96 : decode cX9_errors 96 = .ok (.iaload, 1) := by decide +kernel
theorem dX9_errors_97 : decode cX9_errors 97 = .ok (.iconst 2, 1) := by decide +kernel
theorem dX9_errors_98 : decode cX9_errors 98 = .ok (.if_icmp .ne 6, 3) := by decide +kernel
theorem dX9_errors_101 : decode cX9_errors 101 = .ok (.iinc 4 1, 3) := by decide +kernel
theorem dX9_errors_104 : decode cX9_errors 104 = .ok (.iinc 5 1, 3) := by decide +kernel
theorem dX9_errors_107 : decode cX9_errors 107 = .ok (.goto (-66), 3) := by decide +kernel
theorem dX9_errors_110 : decode cX9_errors 110 = .ok (.iload 4, 2) := by decide +kernel
theorem dX9_errors_112 : decode cX9_errors 112 = .ok (.ireturn, 1) := by decide +kernel
theorem dX9_count_0 : decode cX9_count 0 = .ok (.iload_n 1, 1) := by decide +kernel
theorem dX9_count_1 : decode cX9_count 1 = .ok (.tableswitch 99 0 6 #[43, 51, 59, 67, 75, 83, 91], 43) := by decide +kernel
theorem dX9_count_44 : decode cX9_count 44 = .ok (.aload_n 0, 1) := by decide +kernel
theorem dX9_count_45 : decode cX9_count 45 = .ok (.getfield 12, 3) := by decide +kernel
theorem dX9_count_48 : decode cX9_count 48 = .ok (.getfield 100, 3) := by decide +kernel
theorem dX9_count_51 : decode cX9_count 51 = .ok (.ireturn, 1) := by decide +kernel
theorem dX9_count_52 : decode cX9_count 52 = .ok (.aload_n 0, 1) := by decide +kernel
theorem dX9_count_53 : decode cX9_count 53 = .ok (.getfield 12, 3) := by decide +kernel
theorem dX9_count_56 : decode cX9_count 56 = .ok (.getfield 86, 3) := by decide +kernel
theorem dX9_count_59 : decode cX9_count 59 = .ok (.ireturn, 1) := by decide +kernel
theorem dX9_count_60 : decode cX9_count 60 = .ok (.aload_n 0, 1) := by decide +kernel
theorem dX9_count_61 : decode cX9_count 61 = .ok (.getfield 19, 3) := by decide +kernel
theorem dX9_count_64 : decode cX9_count 64 = .ok (.getfield 142, 3) := by decide +kernel
theorem dX9_count_67 : decode cX9_count 67 = .ok (.ireturn, 1) := by decide +kernel
theorem dX9_count_68 : decode cX9_count 68 = .ok (.aload_n 0, 1) := by decide +kernel
theorem dX9_count_69 : decode cX9_count 69 = .ok (.getfield 19, 3) := by decide +kernel
theorem dX9_count_72 : decode cX9_count 72 = .ok (.getfield 229, 3) := by decide +kernel
theorem dX9_count_75 : decode cX9_count 75 = .ok (.ireturn, 1) := by decide +kernel
theorem dX9_count_76 : decode cX9_count 76 = .ok (.aload_n 0, 1) := by decide +kernel
theorem dX9_count_77 : decode cX9_count 77 = .ok (.getfield 54, 3) := by decide +kernel
theorem dX9_count_80 : decode cX9_count 80 = .ok (.getfield 208, 3) := by decide +kernel
theorem dX9_count_83 : decode cX9_count 83 = .ok (.ireturn, 1) := by decide +kernel
theorem dX9_count_84 : decode cX9_count 84 = .ok (.aload_n 0, 1) := by decide +kernel
theorem dX9_count_85 : decode cX9_count 85 = .ok (.getfield 47, 3) := by decide +kernel
theorem dX9_count_88 : decode cX9_count 88 = .ok (.getfield 232, 3) := by decide +kernel
theorem dX9_count_91 : decode cX9_count 91 = .ok (.ireturn, 1) := by decide +kernel
theorem dX9_count_92 : decode cX9_count 92 = .ok (.aload_n 0, 1) := by decide +kernel
theorem dX9_count_93 : decode cX9_count 93 = .ok (.getfield 33, 3) := by decide +kernel
theorem dX9_count_96 : decode cX9_count 96 = .ok (.getfield 178, 3) := by decide +kernel
theorem dX9_count_99 : decode cX9_count 99 = .ok (.ireturn, 1) := by decide +kernel
theorem dX9_count_100 : decode cX9_count 100 = .ok (.iconst (-1), 1) := by decide +kernel
theorem dX9_count_101 : decode cX9_count 101 = .ok (.ireturn, 1) := by decide +kernel
theorem dX9_look_0 : decode cX9_look 0 = .ok (.aload_n 0, 1) := by decide +kernel
theorem dX9_look_1 : decode cX9_look 1 = .ok (.getfield 12, 3) := by decide +kernel
theorem dX9_look_4 : decode cX9_look 4 = .ok (.iload_n 1, 1) := by decide +kernel
theorem dX9_look_5 : decode cX9_look 5 = .ok (.invokevirtual 107, 3) := by decide +kernel
theorem dX9_look_8 : decode cX9_look 8 = .ok (.ifCond .ne 13, 3) := by decide +kernel
theorem dX9_look_11 : decode cX9_look 11 = .ok (.new 164, 3) := by decide +kernel
theorem dX9_look_14 : decode cX9_look 14 = .ok (.dup, 1) := by decide +kernel
theorem dX9_look_15 : decode cX9_look 15 = .ok (.ldc 235, 2) := by decide +kernel
theorem dX9_look_17 : decode cX9_look 17 = .ok (.invokespecial 168, 3) := by decide +kernel
theorem dX9_look_20 : decode cX9_look 20 = .ok (.athrow, 1) := by decide +kernel
theorem dX9_look_21 : decode cX9_look 21 = .ok (.iload_n 2, 1) := by decide +kernel
theorem dX9_look_22 : decode cX9_look 22 = .ok (.tableswitch 98 0 5 #[38, 48, 58, 68, 78, 88], 38) := by decide +kernel
theorem dX9_look_60 : decode cX9_look 60 = .ok (.aload_n 0, 1) := by decide +kernel
theorem dX9_look_61 : decode cX9_look 61 = .ok (.getfield 12, 3) := by decide +kernel
theorem dX9_look_64 : decode cX9_look 64 = .ok (.getfield 224, 3) := by decide +kernel
theorem dX9_look_67 : decode cX9_look 67 = .ok (.iload_n 1, 1) := by decide +kernel
theorem dX9_look_68 : decode cX9_look 68 = .ok (.iaload, 1) := by decide +kernel
theorem dX9_look_69 : decode cX9_look 69 = .ok (.ireturn, 1) := by decide +kernel
theorem dX9_look_70 : decode cX9_look 70 = .ok (.aload_n 0, 1) := by decide +kernel
theorem dX9_look_71 : decode cX9_look 71 = .ok (.getfield 12, 3) := by decide +kernel
theorem dX9_look_74 : decode cX9_look 74 = .ok (.getfield 194, 3) := by decide +kernel
theorem dX9_look_77 : decode cX9_look 77 = .ok (.iload_n 1, 1) := by decide +kernel
theorem dX9_look_78 : decode cX9_look 78 = .ok (.iaload, 1) := by decide +kernel
theorem dX9_look_79 : decode cX9_look 79 = .ok (.ireturn, 1) := by decide +kernel
theorem dX9_look_80 : decode cX9_look 80 = .ok (.aload_n 0, 1) := by decide +kernel
theorem dX9_look_81 : decode cX9_look 81 = .ok (.getfield 12, 3) := by decide +kernel
theorem dX9_look_84 : decode cX9_look 84 = .ok (.getfield 237, 3) := by decide +kernel
theorem dX9_look_87 : decode cX9_look 87 = .ok (.iload_n 1, 1) := by decide +kernel
theorem dX9_look_88 : decode cX9_look 88 = .ok (.iaload, 1) := by decide +kernel
theorem dX9_look_89 : decode cX9_look 89 = .ok (.ireturn, 1) := by decide +kernel
theorem dX9_look_90 : decode cX9_look 90 = .ok (.aload_n 0, 1) := by decide +kernel
theorem dX9_look_91 : decode cX9_look 91 = .ok (.getfield 12, 3) := by decide +kernel
theorem dX9_look_94 : decode cX9_look 94 = .ok (.getfield 240, 3) := by decide +kernel
theorem dX9_look_97 : decode cX9_look 97 = .ok (.iload_n 1, 1) := by decide +kernel
theorem dX9_look_98 : decode cX9_look 98 = .ok (.iaload, 1) := by decide +kernel
theorem dX9_look_99 : decode cX9_look 99 = .ok (.ireturn, 1) := by decide +kernel
theorem dX9_look_100 : decode cX9_look 100 = .ok (.aload_n 0, 1) := by decide +kernel
theorem dX9_look_101 : decode cX9_look 101 = .ok (.getfield 12, 3) := by decide +kernel
theorem dX9_look_104 : decode cX9_look 104 = .ok (.getfield 110, 3) := by decide +kernel
theorem dX9_look_107 : decode cX9_look 107 = .ok (.iload_n 1, 1) := by decide +kernel
theorem dX9_look_108 : decode cX9_look 108 = .ok (.iaload, 1) := by decide +kernel
theorem dX9_look_109 : decode cX9_look 109 = .ok (.ireturn, 1) := by decide +kernel
theorem dX9_look_110 : decode cX9_look 110 = .ok (.aload_n 0, 1) := by decide +kernel
theorem dX9_look_111 : decode cX9_look 111 = .ok (.getfield 12, 3) := by decide +kernel
theorem dX9_look_114 : decode cX9_look 114 = .ok (.getfield 113, 3) := by decide +kernel
theorem dX9_look_117 : decode cX9_look 117 = .ok (.iload_n 1, 1) := by decide +kernel
theorem dX9_look_118 : decode cX9_look 118 = .ok (.iaload, 1) := by decide +kernel
theorem dX9_look_119 : decode cX9_look 119 = .ok (.ireturn, 1) := by decide +kernel
theorem dX9_look_120 : decode cX9_look 120 = .ok (.new 164, 3) := by decide +kernel
theorem dX9_look_123 : decode cX9_look 123 = .ok (.dup, 1) := by decide +kernel
theorem dX9_look_124 : decode cX9_look 124 = .ok (.ldc 243, 2) := by decide +kernel
theorem dX9_look_126 : decode cX9_look 126 = .ok (.invokespecial 168, 3) := by decide +kernel
theorem dX9_look_129 : decode cX9_look 129 = .ok (.athrow, 1) := by decide +kernel
theorem dX9_within_0 : decode cX9_within 0 = .ok (.iload_n 0, 1) := by decide +kernel
theorem dX9_within_1 : decode cX9_within 1 = .ok (.ifCond .lt 12, 3) := by decide +kernel
theorem dX9_within_4 : decode cX9_within 4 = .ok (.iload_n 0, 1) := by decide +kernel
theorem dX9_within_5 : decode cX9_within 5 = .ok (.iload_n 1, 1) := by decide +kernel
theorem dX9_within_6 : decode cX9_within 6 = .ok (.if_icmp .gt 7, 3) := by decide +kernel
theorem dX9_within_9 : decode cX9_within 9 = .ok (.iconst 1, 1) := by decide +kernel
theorem dX9_within_10 : decode cX9_within 10 = .ok (.goto 4, 3) := by decide +kernel
theorem dX9_within_13 : decode cX9_within 13 = .ok (.iconst 0, 1) := by decide +kernel
theorem dX9_within_14 : decode cX9_within 14 = .ok (.ireturn, 1) := by decide +kernel
theorem dX9_cut_0 : decode cX9_cut 0 = .ok (.iload_n 2, 1) := by decide +kernel
theorem dX9_cut_1 : decode cX9_cut 1 = .ok (.ifCond .ne 7, 3) := by decide +kernel
theorem dX9_cut_4 : decode cX9_cut 4 = .ok (.iconst 0, 1) := by decide +kernel
theorem dX9_cut_5 : decode cX9_cut 5 = .ok (.goto 8, 3) := by decide +kernel
theorem dX9_cut_8 : decode cX9_cut 8 = .ok (.lload_n 0, 1) := by decide +kernel
theorem dX9_cut_9 : decode cX9_cut 9 = .ok (.iload_n 2, 1) := by decide +kernel
theorem dX9_cut_10 : decode cX9_cut 10 = .ok (.i2l, 1) := by decide +kernel
theorem dX9_cut_11 : decode cX9_cut 11 = .ok (.ldiv, 1) := by decide +kernel
theorem dX9_cut_12 : decode cX9_cut 12 = .ok (.l2i, 1) := by decide +kernel
theorem dX9_cut_13 : decode cX9_cut 13 = .ok (.ireturn, 1) := by decide +kernel
theorem dX9_isKind_0 : decode cX9_isKind 0 = .ok (.iload_n 0, 1) := by decide +kernel
theorem dX9_isKind_1 : decode cX9_isKind 1 = .ok (.iconst 5, 1) := by decide +kernel
theorem dX9_isKind_2 : decode cX9_isKind 2 = .ok (.invokestatic 82, 3) := by decide +kernel
theorem dX9_isKind_5 : decode cX9_isKind 5 = .ok (.ireturn, 1) := by decide +kernel
theorem dX9_isPlace_0 : decode cX9_isPlace 0 = .ok (.iload_n 0, 1) := by decide +kernel
theorem dX9_isPlace_1 : decode cX9_isPlace 1 = .ok (.bipush 9, 2) := by decide +kernel
theorem dX9_isPlace_3 : decode cX9_isPlace 3 = .ok (.invokestatic 82, 3) := by decide +kernel
theorem dX9_isPlace_6 : decode cX9_isPlace 6 = .ok (.ireturn, 1) := by decide +kernel
theorem dX9_isReader_0 : decode cX9_isReader 0 = .ok (.iload_n 0, 1) := by decide +kernel
theorem dX9_isReader_1 : decode cX9_isReader 1 = .ok (.bipush 19, 2) := by decide +kernel
theorem dX9_isReader_3 : decode cX9_isReader 3 = .ok (.invokestatic 82, 3) := by decide +kernel
theorem dX9_isReader_6 : decode cX9_isReader 6 = .ok (.ireturn, 1) := by decide +kernel
theorem dX9_isWalker_0 : decode cX9_isWalker 0 = .ok (.iload_n 0, 1) := by decide +kernel
theorem dX9_isWalker_1 : decode cX9_isWalker 1 = .ok (.iconst 4, 1) := by decide +kernel
theorem dX9_isWalker_2 : decode cX9_isWalker 2 = .ok (.invokestatic 82, 3) := by decide +kernel
theorem dX9_isWalker_5 : decode cX9_isWalker 5 = .ok (.ireturn, 1) := by decide +kernel
theorem dX9_isValue_0 : decode cX9_isValue 0 = .ok (.iload_n 0, 1) := by decide +kernel
theorem dX9_isValue_1 : decode cX9_isValue 1 = .ok (.sipush 9999, 3) := by decide +kernel
theorem dX9_isValue_4 : decode cX9_isValue 4 = .ok (.invokestatic 82, 3) := by decide +kernel
theorem dX9_isValue_7 : decode cX9_isValue 7 = .ok (.ireturn, 1) := by decide +kernel
theorem dX9_isName_0 : decode cX9_isName 0 = .ok (.iload_n 0, 1) := by decide +kernel
theorem dX9_isName_1 : decode cX9_isName 1 = .ok (.sipush 204, 3) := by decide +kernel
theorem dX9_isName_4 : decode cX9_isName 4 = .ok (.if_icmp .lt 14, 3) := by decide +kernel
theorem dX9_isName_7 : decode cX9_isName 7 = .ok (.iload_n 0, 1) := by decide +kernel
theorem dX9_isName_8 : decode cX9_isName 8 = .ok (.sipush 209, 3) := by decide +kernel
theorem dX9_isName_11 : decode cX9_isName 11 = .ok (.if_icmp .gt 7, 3) := by decide +kernel
theorem dX9_isName_14 : decode cX9_isName 14 = .ok (.iconst 1, 1) := by decide +kernel
theorem dX9_isName_15 : decode cX9_isName 15 = .ok (.goto 4, 3) := by decide +kernel
theorem dX9_isName_18 : decode cX9_isName 18 = .ok (.iconst 0, 1) := by decide +kernel
theorem dX9_isName_19 : decode cX9_isName 19 = .ok (.ireturn, 1) := by decide +kernel
theorem dX9_placesFor_0 : decode cX9_placesFor 0 = .ok (.aload_n 0, 1) := by decide +kernel
theorem dX9_placesFor_1 : decode cX9_placesFor 1 = .ok (.getfield 61, 3) := by decide +kernel
theorem dX9_placesFor_4 : decode cX9_placesFor 4 = .ok (.iload_n 1, 1) := by decide +kernel
theorem dX9_placesFor_5 : decode cX9_placesFor 5 = .ok (.invokevirtual 245, 3) := by decide +kernel
theorem dX9_placesFor_8 : decode cX9_placesFor 8 = .ok (.iconst 0, 1) := by decide +kernel
theorem dX9_placesFor_9 : decode cX9_placesFor 9 = .ok (.istore_n 2, 1) := by decide +kernel
theorem dX9_placesFor_10 : decode cX9_placesFor 10 = .ok (.iload_n 2, 1) := by decide +kernel
theorem dX9_placesFor_11 : decode cX9_placesFor 11 = .ok (.bipush 10, 2) := by decide +kernel
theorem dX9_placesFor_13 : decode cX9_placesFor 13 = .ok (.if_icmp .ge 32, 3) := by decide +kernel
theorem dX9_placesFor_16 : decode cX9_placesFor 16 = .ok (.aload_n 0, 1) := by decide +kernel
theorem dX9_placesFor_17 : decode cX9_placesFor 17 = .ok (.getfield 61, 3) := by decide +kernel
theorem dX9_placesFor_20 : decode cX9_placesFor 20 = .ok (.iload_n 2, 1) := by decide +kernel
theorem dX9_placesFor_21 : decode cX9_placesFor 21 = .ok (.aload_n 0, 1) := by decide +kernel
theorem dX9_placesFor_22 : decode cX9_placesFor 22 = .ok (.getfield 65, 3) := by decide +kernel
theorem dX9_placesFor_25 : decode cX9_placesFor 25 = .ok (.iload_n 2, 1) := by decide +kernel
theorem dX9_placesFor_26 : decode cX9_placesFor 26 = .ok (.iaload, 1) := by decide +kernel
theorem dX9_placesFor_27 : decode cX9_placesFor 27 = .ok (.aload_n 0, 1) := by decide +kernel
theorem dX9_placesFor_28 : decode cX9_placesFor 28 = .ok (.getfield 12, 3) := by decide +kernel
theorem dX9_placesFor_31 : decode cX9_placesFor 31 = .ok (.iload_n 2, 1) := by decide +kernel
theorem dX9_placesFor_32 : decode cX9_placesFor 32 = .ok (.invokevirtual 248, 3) := by decide +kernel
theorem dX9_placesFor_35 : decode cX9_placesFor 35 = .ok (.iconst 0, 1) := by decide +kernel
theorem dX9_placesFor_36 : decode cX9_placesFor 36 = .ok (.invokevirtual 251, 3) := by decide +kernel
theorem dX9_placesFor_39 : decode cX9_placesFor 39 = .ok (.iinc 2 1, 3) := by decide +kernel
theorem dX9_placesFor_42 : decode cX9_placesFor 42 = .ok (.goto (-32), 3) := by decide +kernel
theorem dX9_placesFor_45 : decode cX9_placesFor 45 = .ok (.aload_n 0, 1) := by decide +kernel
theorem dX9_placesFor_46 : decode cX9_placesFor 46 = .ok (.getfield 61, 3) := by decide +kernel
theorem dX9_placesFor_49 : decode cX9_placesFor 49 = .ok (.invokevirtual 255, 3) := by decide +kernel
theorem dX9_placesFor_52 : decode cX9_placesFor 52 = .ok (.lreturn, 1) := by decide +kernel
theorem dX9_doubtOfSet_0 : decode cX9_doubtOfSet 0 = .ok (.iconst 0, 1) := by decide +kernel
theorem dX9_doubtOfSet_1 : decode cX9_doubtOfSet 1 = .ok (.istore_n 3, 1) := by decide +kernel
theorem dX9_doubtOfSet_2 : decode cX9_doubtOfSet 2 = .ok (.iconst 0, 1) := by decide +kernel
theorem dX9_doubtOfSet_3 : decode cX9_doubtOfSet 3 = .ok (.istore 4, 2) := by decide +kernel
theorem dX9_doubtOfSet_5 : decode cX9_doubtOfSet 5 = .ok (.iload 4, 2) := by decide +kernel
theorem dX9_doubtOfSet_7 : decode cX9_doubtOfSet 7 = .ok (.bipush 10, 2) := by decide +kernel
theorem dX9_doubtOfSet_9 : decode cX9_doubtOfSet 9 = .ok (.if_icmp .ge 32, 3) := by decide +kernel
theorem dX9_doubtOfSet_12 : decode cX9_doubtOfSet 12 = .ok (.lload_n 1, 1) := by decide +kernel
theorem dX9_doubtOfSet_13 : decode cX9_doubtOfSet 13 = .ok (.lconst 1, 1) := by decide +kernel
theorem dX9_doubtOfSet_14 : decode cX9_doubtOfSet 14 = .ok (.iload 4, 2) := by decide +kernel
theorem dX9_doubtOfSet_16 : decode cX9_doubtOfSet 16 = .ok (.lshl, 1) := by decide +kernel
theorem dX9_doubtOfSet_17 : decode cX9_doubtOfSet 17 = .ok (.land, 1) := by decide +kernel
theorem dX9_doubtOfSet_18 : decode cX9_doubtOfSet 18 = .ok (.lconst 0, 1) := by decide +kernel
theorem dX9_doubtOfSet_19 : decode cX9_doubtOfSet 19 = .ok (.lcmp, 1) := by decide +kernel
theorem dX9_doubtOfSet_20 : decode cX9_doubtOfSet 20 = .ok (.ifCond .eq 15, 3) := by decide +kernel
theorem dX9_doubtOfSet_23 : decode cX9_doubtOfSet 23 = .ok (.iload_n 3, 1) := by decide +kernel
theorem dX9_doubtOfSet_24 : decode cX9_doubtOfSet 24 = .ok (.aload_n 0, 1) := by decide +kernel
theorem dX9_doubtOfSet_25 : decode cX9_doubtOfSet 25 = .ok (.getfield 12, 3) := by decide +kernel
theorem dX9_doubtOfSet_28 : decode cX9_doubtOfSet 28 = .ok (.iload 4, 2) := by decide +kernel
theorem dX9_doubtOfSet_30 : decode cX9_doubtOfSet 30 = .ok (.invokevirtual 248, 3) := by decide +kernel
theorem dX9_doubtOfSet_33 : decode cX9_doubtOfSet 33 = .ok (.iadd, 1) := by decide +kernel
theorem dX9_doubtOfSet_34 : decode cX9_doubtOfSet 34 = .ok (.istore_n 3, 1) := by decide +kernel
theorem dX9_doubtOfSet_35 : decode cX9_doubtOfSet 35 = .ok (.iinc 4 1, 3) := by decide +kernel
theorem dX9_doubtOfSet_38 : decode cX9_doubtOfSet 38 = .ok (.goto (-33), 3) := by decide +kernel
theorem dX9_doubtOfSet_41 : decode cX9_doubtOfSet 41 = .ok (.iload_n 3, 1) := by decide +kernel
theorem dX9_doubtOfSet_42 : decode cX9_doubtOfSet 42 = .ok (.ireturn, 1) := by decide +kernel
theorem dX9_linesKept_0 : decode cX9_linesKept 0 = .ok (.aload_n 0, 1) := by decide +kernel
theorem dX9_linesKept_1 : decode cX9_linesKept 1 = .ok (.getfield 61, 3) := by decide +kernel
theorem dX9_linesKept_4 : decode cX9_linesKept 4 = .ok (.iload_n 2, 1) := by decide +kernel
theorem dX9_linesKept_5 : decode cX9_linesKept 5 = .ok (.invokevirtual 245, 3) := by decide +kernel
theorem dX9_linesKept_8 : decode cX9_linesKept 8 = .ok (.aload_n 0, 1) := by decide +kernel
theorem dX9_linesKept_9 : decode cX9_linesKept 9 = .ok (.getfield 12, 3) := by decide +kernel
theorem dX9_linesKept_12 : decode cX9_linesKept 12 = .ok (.getfield 100, 3) := by decide +kernel
theorem dX9_linesKept_15 : decode cX9_linesKept 15 = .ok (.iconst 1, 1) := by decide +kernel
theorem dX9_linesKept_16 : decode cX9_linesKept 16 = .ok (.isub, 1) := by decide +kernel
theorem dX9_linesKept_17 : decode cX9_linesKept 17 = .ok (.istore_n 3, 1) := by decide +kernel
theorem dX9_linesKept_18 : decode cX9_linesKept 18 = .ok (.iload_n 3, 1) := by decide +kernel
theorem dX9_linesKept_19 : decode cX9_linesKept 19 = .ok (.ifCond .lt 49, 3) := by decide +kernel
theorem dX9_linesKept_22 : decode cX9_linesKept 22 = .ok (.aload_n 0, 1) := by decide +kernel
theorem dX9_linesKept_23 : decode cX9_linesKept 23 = .ok (.getfield 12, 3) := by decide +kernel
theorem dX9_linesKept_26 : decode cX9_linesKept 26 = .ok (.getfield 194, 3) := by decide +kernel
theorem dX9_linesKept_29 : decode cX9_linesKept 29 = .ok (.iload_n 3, 1) := by decide +kernel
theorem dX9_linesKept_30 : decode cX9_linesKept 30 = .ok (.iaload, 1) := by decide +kernel
theorem dX9_linesKept_31 : decode cX9_linesKept 31 = .ok (.iload_n 1, 1) := by decide +kernel
theorem dX9_linesKept_32 : decode cX9_linesKept 32 = .ok (.if_icmp .ne 30, 3) := by decide +kernel
theorem dX9_linesKept_35 : decode cX9_linesKept 35 = .ok (.aload_n 0, 1) := by decide +kernel
theorem dX9_linesKept_36 : decode cX9_linesKept 36 = .ok (.getfield 61, 3) := by decide +kernel
theorem dX9_linesKept_39 : decode cX9_linesKept 39 = .ok (.iload_n 3, 1) := by decide +kernel
theorem dX9_linesKept_40 : decode cX9_linesKept 40 = .ok (.aload_n 0, 1) := by decide +kernel
theorem dX9_linesKept_41 : decode cX9_linesKept 41 = .ok (.getfield 12, 3) := by decide +kernel
theorem dX9_linesKept_44 : decode cX9_linesKept 44 = .ok (.getfield 110, 3) := by decide +kernel
theorem dX9_linesKept_47 : decode cX9_linesKept 47 = .ok (.iload_n 3, 1) := by decide +kernel
theorem dX9_linesKept_48 : decode cX9_linesKept 48 = .ok (.iaload, 1) := by decide +kernel
theorem dX9_linesKept_49 : decode cX9_linesKept 49 = .ok (.aload_n 0, 1) := by decide +kernel
theorem dX9_linesKept_50 : decode cX9_linesKept 50 = .ok (.getfield 12, 3) := by decide +kernel
theorem dX9_linesKept_53 : decode cX9_linesKept 53 = .ok (.getfield 113, 3) := by decide +kernel
theorem dX9_linesKept_56 : decode cX9_linesKept 56 = .ok (.iload_n 3, 1) := by decide +kernel
theorem dX9_linesKept_57 : decode cX9_linesKept 57 = .ok (.iaload, 1) := by decide +kernel
theorem dX9_linesKept_58 : decode cX9_linesKept 58 = .ok (.iconst 1, 1) := by decide +kernel
theorem dX9_linesKept_59 : decode cX9_linesKept 59 = .ok (.invokevirtual 251, 3) := by decide +kernel
theorem dX9_linesKept_62 : decode cX9_linesKept 62 = .ok (.iinc 3 (-1), 3) := by decide +kernel
theorem dX9_linesKept_65 : decode cX9_linesKept 65 = .ok (.goto (-47), 3) := by decide +kernel
theorem dX9_linesKept_68 : decode cX9_linesKept 68 = .ok (.aload_n 0, 1) := by decide +kernel
theorem dX9_linesKept_69 : decode cX9_linesKept 69 = .ok (.getfield 61, 3) := by decide +kernel
theorem dX9_linesKept_72 : decode cX9_linesKept 72 = .ok (.invokevirtual 255, 3) := by decide +kernel
theorem dX9_linesKept_75 : decode cX9_linesKept 75 = .ok (.lreturn, 1) := by decide +kernel
theorem dX9_beliefOf_0 : decode cX9_beliefOf 0 = .ok (.aload_n 0, 1) := by decide +kernel
theorem dX9_beliefOf_1 : decode cX9_beliefOf 1 = .ok (.getfield 12, 3) := by decide +kernel
theorem dX9_beliefOf_4 : decode cX9_beliefOf 4 = .ok (.getfield 237, 3) := by decide +kernel
theorem dX9_beliefOf_7 : decode cX9_beliefOf 7 = .ok (.iload_n 1, 1) := by decide +kernel
theorem dX9_beliefOf_8 : decode cX9_beliefOf 8 = .ok (.iaload, 1) := by decide +kernel
theorem dX9_beliefOf_9 : decode cX9_beliefOf 9 = .ok (.istore_n 2, 1) := by decide +kernel
theorem dX9_beliefOf_10 : decode cX9_beliefOf 10 = .ok (.iload_n 2, 1) := by decide +kernel
theorem dX9_beliefOf_11 : decode cX9_beliefOf 11 = .ok (.istore_n 3, 1) := by decide +kernel
theorem dX9_beliefOf_12 : decode cX9_beliefOf 12 = .ok (.aload_n 0, 1) := by decide +kernel
theorem dX9_beliefOf_13 : decode cX9_beliefOf 13 = .ok (.getfield 12, 3) := by decide +kernel
theorem dX9_beliefOf_16 : decode cX9_beliefOf 16 = .ok (.iload_n 1, 1) := by decide +kernel
theorem dX9_beliefOf_17 : decode cX9_beliefOf 17 = .ok (.invokevirtual 128, 3) := by decide +kernel
theorem dX9_beliefOf_20 : decode cX9_beliefOf 20 = .ok (.sipush 1000, 3) := by decide +kernel
theorem dX9_beliefOf_23 : decode cX9_beliefOf 23 = .ok (.idiv, 1) := by decide +kernel
theorem dX9_beliefOf_24 : decode cX9_beliefOf 24 = .ok (.aload_n 0, 1) := by decide +kernel
theorem dX9_beliefOf_25 : decode cX9_beliefOf 25 = .ok (.getfield 19, 3) := by decide +kernel
theorem dX9_beliefOf_28 : decode cX9_beliefOf 28 = .ok (.iload_n 1, 1) := by decide +kernel
theorem dX9_beliefOf_29 : decode cX9_beliefOf 29 = .ok (.iload_n 2, 1) := by decide +kernel
theorem dX9_beliefOf_30 : decode cX9_beliefOf 30 = .ok (.invokevirtual 259, 3) := by decide +kernel
theorem dX9_beliefOf_33 : decode cX9_beliefOf 33 = .ok (.iadd, 1) := by decide +kernel
theorem dX9_beliefOf_34 : decode cX9_beliefOf 34 = .ok (.istore 4, 2) := by decide +kernel
theorem dX9_beliefOf_36 : decode cX9_beliefOf 36 = .ok (.iconst 0, 1) := by decide +kernel
theorem dX9_beliefOf_37 : decode cX9_beliefOf 37 = .ok (.istore 5, 2) := by decide +kernel
theorem dX9_beliefOf_39 : decode cX9_beliefOf 39 = .ok (.iload 5, 2) := by decide +kernel
theorem dX9_beliefOf_41 : decode cX9_beliefOf 41 = .ok (.aload_n 0, 1) := by decide +kernel
theorem dX9_beliefOf_42 : decode cX9_beliefOf 42 = .ok (.getfield 19, 3) := by decide +kernel
theorem dX9_beliefOf_45 : decode cX9_beliefOf 45 = .ok (.getfield 142, 3) := by decide +kernel
theorem dX9_beliefOf_48 : decode cX9_beliefOf 48 = .ok (.if_icmp .ge 99, 3) := by decide +kernel
theorem dX9_beliefOf_51 : decode cX9_beliefOf 51 = .ok (.aload_n 0, 1) := by decide +kernel
theorem dX9_beliefOf_52 : decode cX9_beliefOf 52 = .ok (.getfield 19, 3) := by decide +kernel
theorem dX9_beliefOf_55 : decode cX9_beliefOf 55 = .ok (.getfield 263, 3) := by decide +kernel
theorem dX9_beliefOf_58 : decode cX9_beliefOf 58 = .ok (.iload 5, 2) := by decide +kernel
theorem dX9_beliefOf_60 : decode cX9_beliefOf 60 = .ok (.iaload, 1) := by decide +kernel
theorem dX9_beliefOf_61 : decode cX9_beliefOf 61 = .ok (.istore 6, 2) := by decide +kernel
theorem dX9_beliefOf_63 : decode cX9_beliefOf 63 = .ok (.aload_n 0, 1) := by decide +kernel
theorem dX9_beliefOf_64 : decode cX9_beliefOf 64 = .ok (.getfield 19, 3) := by decide +kernel
theorem dX9_beliefOf_67 : decode cX9_beliefOf 67 = .ok (.iload 5, 2) := by decide +kernel
theorem dX9_beliefOf_69 : decode cX9_beliefOf 69 = .ok (.iload_n 1, 1) := by decide +kernel
theorem dX9_beliefOf_70 : decode cX9_beliefOf 70 = .ok (.invokevirtual 266, 3) := by decide +kernel
theorem dX9_beliefOf_73 : decode cX9_beliefOf 73 = .ok (.ifCond .eq 68, 3) := by decide +kernel
theorem dX9_beliefOf_76 : decode cX9_beliefOf 76 = .ok (.iload 6, 2) := by decide +kernel
theorem dX9_beliefOf_78 : decode cX9_beliefOf 78 = .ok (.iload_n 2, 1) := by decide +kernel
theorem dX9_beliefOf_79 : decode cX9_beliefOf 79 = .ok (.if_icmp .ne 6, 3) := by decide +kernel
theorem dX9_beliefOf_82 : decode cX9_beliefOf 82 = .ok (.goto 59, 3) := by decide +kernel
theorem dX9_beliefOf_85 : decode cX9_beliefOf 85 = .ok (.aload_n 0, 1) := by decide +kernel
theorem dX9_beliefOf_86 : decode cX9_beliefOf 86 = .ok (.getfield 19, 3) := by decide +kernel
theorem dX9_beliefOf_89 : decode cX9_beliefOf 89 = .ok (.iload_n 1, 1) := by decide +kernel
theorem dX9_beliefOf_90 : decode cX9_beliefOf 90 = .ok (.iload 6, 2) := by decide +kernel
theorem dX9_beliefOf_92 : decode cX9_beliefOf 92 = .ok (.invokevirtual 259, 3) := by decide +kernel
theorem dX9_beliefOf_95 : decode cX9_beliefOf 95 = .ok (.istore 7, 2) := by decide +kernel
theorem dX9_beliefOf_97 : decode cX9_beliefOf 97 = .ok (.iload 7, 2) := by decide +kernel
theorem dX9_beliefOf_99 : decode cX9_beliefOf 99 = .ok (.iload 4, 2) := by decide +kernel
theorem dX9_beliefOf_101 : decode cX9_beliefOf 101 = .ok (.if_icmp .ne 18, 3) := by decide +kernel
theorem dX9_beliefOf_104 : decode cX9_beliefOf 104 = .ok (.iload_n 3, 1) := by decide +kernel
theorem dX9_beliefOf_105 : decode cX9_beliefOf 105 = .ok (.iload_n 2, 1) := by decide +kernel
theorem dX9_beliefOf_106 : decode cX9_beliefOf 106 = .ok (.if_icmp .eq 13, 3) := by decide +kernel
theorem dX9_beliefOf_109 : decode cX9_beliefOf 109 = .ok (.iload 6, 2) := by decide +kernel
theorem dX9_beliefOf_111 : decode cX9_beliefOf 111 = .ok (.iload_n 3, 1) := by decide +kernel
theorem dX9_beliefOf_112 : decode cX9_beliefOf 112 = .ok (.if_icmp .ge 7, 3) := by decide +kernel
theorem dX9_beliefOf_115 : decode cX9_beliefOf 115 = .ok (.iconst 1, 1) := by decide +kernel
theorem dX9_beliefOf_116 : decode cX9_beliefOf 116 = .ok (.goto 4, 3) := by decide +kernel
theorem dX9_beliefOf_119 : decode cX9_beliefOf 119 = .ok (.iconst 0, 1) := by decide +kernel
theorem dX9_beliefOf_120 : decode cX9_beliefOf 120 = .ok (.istore 8, 2) := by decide +kernel
theorem dX9_beliefOf_122 : decode cX9_beliefOf 122 = .ok (.iload 7, 2) := by decide +kernel
theorem dX9_beliefOf_124 : decode cX9_beliefOf 124 = .ok (.iload 4, 2) := by decide +kernel
theorem dX9_beliefOf_126 : decode cX9_beliefOf 126 = .ok (.if_icmp .gt 8, 3) := by decide +kernel
theorem dX9_beliefOf_129 : decode cX9_beliefOf 129 = .ok (.iload 8, 2) := by decide +kernel
theorem dX9_beliefOf_131 : decode cX9_beliefOf 131 = .ok (.ifCond .eq 10, 3) := by decide +kernel
theorem dX9_beliefOf_134 : decode cX9_beliefOf 134 = .ok (.iload 6, 2) := by decide +kernel
theorem dX9_beliefOf_136 : decode cX9_beliefOf 136 = .ok (.istore_n 3, 1) := by decide +kernel
theorem dX9_beliefOf_137 : decode cX9_beliefOf 137 = .ok (.iload 7, 2) := by decide +kernel
theorem dX9_beliefOf_139 : decode cX9_beliefOf 139 = .ok (.istore 4, 2) := by decide +kernel
theorem dX9_beliefOf_141 : decode cX9_beliefOf 141 = .ok (.iinc 5 1, 3) := by decide +kernel
theorem dX9_beliefOf_144 : decode cX9_beliefOf 144 = .ok (.goto (-105), 3) := by decide +kernel
theorem dX9_beliefOf_147 : decode cX9_beliefOf 147 = .ok (.iload_n 3, 1) := by decide +kernel
theorem dX9_beliefOf_148 : decode cX9_beliefOf 148 = .ok (.ireturn, 1) := by decide +kernel
theorem dX9_starsOf_0 : decode cX9_starsOf 0 = .ok (.aload_n 0, 1) := by decide +kernel
theorem dX9_starsOf_1 : decode cX9_starsOf 1 = .ok (.getfield 26, 3) := by decide +kernel
theorem dX9_starsOf_4 : decode cX9_starsOf 4 = .ok (.iload_n 1, 1) := by decide +kernel
theorem dX9_starsOf_5 : decode cX9_starsOf 5 = .ok (.aload_n 0, 1) := by decide +kernel
theorem dX9_starsOf_6 : decode cX9_starsOf 6 = .ok (.getfield 73, 3) := by decide +kernel
theorem dX9_starsOf_9 : decode cX9_starsOf 9 = .ok (.invokevirtual 269, 3) := by decide +kernel
theorem dX9_starsOf_12 : decode cX9_starsOf 12 = .ok (.aload_n 0, 1) := by decide +kernel
theorem dX9_starsOf_13 : decode cX9_starsOf 13 = .ok (.getfield 73, 3) := by decide +kernel
theorem dX9_starsOf_16 : decode cX9_starsOf 16 = .ok (.iconst 4, 1) := by decide +kernel
theorem dX9_starsOf_17 : decode cX9_starsOf 17 = .ok (.aload_n 0, 1) := by decide +kernel
theorem dX9_starsOf_18 : decode cX9_starsOf 18 = .ok (.getfield 12, 3) := by decide +kernel
theorem dX9_starsOf_21 : decode cX9_starsOf 21 = .ok (.iload_n 1, 1) := by decide +kernel
theorem dX9_starsOf_22 : decode cX9_starsOf 22 = .ok (.invokevirtual 273, 3) := by decide +kernel
theorem dX9_starsOf_25 : decode cX9_starsOf 25 = .ok (.iastore, 1) := by decide +kernel
theorem dX9_starsOf_26 : decode cX9_starsOf 26 = .ok (.aload_n 0, 1) := by decide +kernel
theorem dX9_starsOf_27 : decode cX9_starsOf 27 = .ok (.getfield 73, 3) := by decide +kernel
theorem dX9_starsOf_30 : decode cX9_starsOf 30 = .ok (.iconst 5, 1) := by decide +kernel
theorem dX9_starsOf_31 : decode cX9_starsOf 31 = .ok (.aload_n 0, 1) := by decide +kernel
theorem dX9_starsOf_32 : decode cX9_starsOf 32 = .ok (.getfield 69, 3) := by decide +kernel
theorem dX9_starsOf_35 : decode cX9_starsOf 35 = .ok (.iload_n 1, 1) := by decide +kernel
theorem dX9_starsOf_36 : decode cX9_starsOf 36 = .ok (.baload, 1) := by decide +kernel
theorem dX9_starsOf_37 : decode cX9_starsOf 37 = .ok (.ifCond .eq 7, 3) := by decide +kernel
theorem dX9_starsOf_40 : decode cX9_starsOf 40 = .ok (.iconst 1, 1) := by decide +kernel
theorem dX9_starsOf_41 : decode cX9_starsOf 41 = .ok (.goto 4, 3) := by decide +kernel
theorem dX9_starsOf_44 : decode cX9_starsOf 44 = .ok (.iconst 0, 1) := by decide +kernel
theorem dX9_starsOf_45 : decode cX9_starsOf 45 = .ok (.iastore, 1) := by decide +kernel
theorem dX9_starsOf_46 : decode cX9_starsOf 46 = .ok (.aload_n 0, 1) := by decide +kernel
theorem dX9_starsOf_47 : decode cX9_starsOf 47 = .ok (.getfield 47, 3) := by decide +kernel
theorem dX9_starsOf_50 : decode cX9_starsOf 50 = .ok (.aload_n 0, 1) := by decide +kernel
theorem dX9_starsOf_51 : decode cX9_starsOf 51 = .ok (.getfield 73, 3) := by decide +kernel
theorem dX9_starsOf_54 : decode cX9_starsOf 54 = .ok (.invokevirtual 276, 3) := by decide +kernel
theorem dX9_starsOf_57 : decode cX9_starsOf 57 = .ok (.ireturn, 1) := by decide +kernel
theorem dX10_thrown_0 : decode cX10_thrown 0 = .ok (.aload_n 0, 1) := by decide +kernel
theorem dX10_thrown_1 : decode cX10_thrown 1 = .ok (.getfield 1, 3) := by decide +kernel
theorem dX10_thrown_4 : decode cX10_thrown 4 = .ok (.ireturn, 1) := by decide +kernel
theorem dX10_feed_0 : decode cX10_feed 0 = .ok (.aload_n 0, 1) := by decide +kernel
theorem dX10_feed_1 : decode cX10_feed 1 = .ok (.iconst 0, 1) := by decide +kernel
theorem dX10_feed_2 : decode cX10_feed 2 = .ok (.putfield 1, 3) := by decide +kernel
theorem dX10_feed_5 : decode cX10_feed 5 = .ok (.aload_n 0, 1) := by decide +kernel
theorem dX10_feed_6 : decode cX10_feed 6 = .ok (.lload_n 1, 1) := by decide +kernel
theorem dX10_feed_7 : decode cX10_feed 7 = .ok (.invokevirtual 7, 3) := by decide +kernel
theorem dX10_feed_10 : decode cX10_feed 10 = .ok (.aload_n 0, 1) := by decide +kernel
theorem dX10_feed_11 : decode cX10_feed 11 = .ok (.lload_n 3, 1) := by decide +kernel
theorem dX10_feed_12 : decode cX10_feed 12 = .ok (.invokevirtual 7, 3) := by decide +kernel
theorem dX10_feed_15 : decode cX10_feed 15 = .ok (.aload_n 0, 1) := by decide +kernel
theorem dX10_feed_16 : decode cX10_feed 16 = .ok (.lload 5, 2) := by decide +kernel
theorem dX10_feed_18 : decode cX10_feed 18 = .ok (.invokevirtual 7, 3) := by decide +kernel
theorem dX10_feed_21 : decode cX10_feed 21 = .ok (.aload_n 0, 1) := by decide +kernel
theorem dX10_feed_22 : decode cX10_feed 22 = .ok (.getfield 11, 3) := by decide +kernel
theorem dX10_feed_25 : decode cX10_feed 25 = .ok (.ireturn, 1) := by decide +kernel
theorem dX10_lay_0 : decode cX10_lay 0 = .ok (.bipush 56, 2) := by decide +kernel
theorem dX10_lay_2 : decode cX10_lay 2 = .ok (.istore_n 3, 1) := by decide +kernel
theorem dX10_lay_3 : decode cX10_lay 3 = .ok (.iload_n 3, 1) := by decide +kernel
theorem dX10_lay_4 : decode cX10_lay 4 = .ok (.ifCond .lt 71, 3) := by decide +kernel
theorem dX10_lay_7 : decode cX10_lay 7 = .ok (.lload_n 1, 1) := by decide +kernel
theorem dX10_lay_8 : decode cX10_lay 8 = .ok (.iload_n 3, 1) := by decide +kernel
theorem dX10_lay_9 : decode cX10_lay 9 = .ok (.lshr, 1) := by decide +kernel
theorem dX10_lay_10 : decode cX10_lay 10 = .ok (.l2i, 1) := by decide +kernel
theorem dX10_lay_11 : decode cX10_lay 11 = .ok (.sipush 255, 3) := by decide +kernel
theorem dX10_lay_14 : decode cX10_lay 14 = .ok (.iand, 1) := by decide +kernel
theorem dX10_lay_15 : decode cX10_lay 15 = .ok (.istore 4, 2) := by decide +kernel
theorem dX10_lay_17 : decode cX10_lay 17 = .ok (.iload 4, 2) := by decide +kernel
theorem dX10_lay_19 : decode cX10_lay 19 = .ok (.bipush 10, 2) := by decide +kernel
theorem dX10_lay_21 : decode cX10_lay 21 = .ok (.if_icmp .eq 17, 3) := by decide +kernel
theorem dX10_lay_24 : decode cX10_lay 24 = .ok (.iload 4, 2) := by decide +kernel
theorem dX10_lay_26 : decode cX10_lay 26 = .ok (.bipush 32, 2) := by decide +kernel
theorem dX10_lay_28 : decode cX10_lay 28 = .ok (.if_icmp .lt 41, 3) := by decide +kernel
theorem dX10_lay_31 : decode cX10_lay 31 = .ok (.iload 4, 2) := by decide +kernel
theorem dX10_lay_33 : decode cX10_lay 33 = .ok (.bipush 126, 2) := by decide +kernel
theorem dX10_lay_35 : decode cX10_lay 35 = .ok (.if_icmp .gt 34, 3) := by decide +kernel
theorem dX10_lay_38 : decode cX10_lay 38 = .ok (.aload_n 0, 1) := by decide +kernel
theorem dX10_lay_39 : decode cX10_lay 39 = .ok (.getfield 11, 3) := by decide +kernel
theorem dX10_lay_42 : decode cX10_lay 42 = .ok (.sipush 600, 3) := by decide +kernel
theorem dX10_lay_45 : decode cX10_lay 45 = .ok (.if_icmp .ge 24, 3) := by decide +kernel
theorem dX10_lay_48 : decode cX10_lay 48 = .ok (.aload_n 0, 1) := by decide +kernel
theorem dX10_lay_49 : decode cX10_lay 49 = .ok (.getfield 14, 3) := by decide +kernel
theorem dX10_lay_52 : decode cX10_lay 52 = .ok (.aload_n 0, 1) := by decide +kernel
theorem dX10_lay_53 : decode cX10_lay 53 = .ok (.getfield 11, 3) := by decide +kernel
theorem dX10_lay_56 : decode cX10_lay 56 = .ok (.iload 4, 2) := by decide +kernel
theorem dX10_lay_58 : decode cX10_lay 58 = .ok (.iastore, 1) := by decide +kernel
theorem dX10_lay_59 : decode cX10_lay 59 = .ok (.aload_n 0, 1) := by decide +kernel
theorem dX10_lay_60 : decode cX10_lay 60 = .ok (.dup, 1) := by decide +kernel
theorem dX10_lay_61 : decode cX10_lay 61 = .ok (.getfield 11, 3) := by decide +kernel
theorem dX10_lay_64 : decode cX10_lay 64 = .ok (.iconst 1, 1) := by decide +kernel
theorem dX10_lay_65 : decode cX10_lay 65 = .ok (.iadd, 1) := by decide +kernel
theorem dX10_lay_66 : decode cX10_lay 66 = .ok (.putfield 11, 3) := by decide +kernel
theorem dX10_lay_69 : decode cX10_lay 69 = .ok (.iinc 3 (-8), 3) := by decide +kernel
theorem dX10_lay_72 : decode cX10_lay 72 = .ok (.goto (-69), 3) := by decide +kernel
theorem dX10_lay_75 : decode cX10_lay 75 = .ok (.return_, 1) := by decide +kernel
theorem dX10_init_0 : decode cX10_init 0 = .ok (.aload_n 0, 1) := by decide +kernel
theorem dX10_init_1 : decode cX10_init 1 = .ok (.invokespecial 18, 3) := by decide +kernel
theorem dX10_init_4 : decode cX10_init 4 = .ok (.aload_n 0, 1) := by decide +kernel
theorem dX10_init_5 : decode cX10_init 5 = .ok (.sipush 600, 3) := by decide +kernel
theorem dX10_init_8 : decode cX10_init 8 = .ok (.newarray .int, 2) := by decide +kernel
theorem dX10_init_10 : decode cX10_init 10 = .ok (.putfield 14, 3) := by decide +kernel
theorem dX10_init_13 : decode cX10_init 13 = .ok (.aload_n 0, 1) := by decide +kernel
theorem dX10_init_14 : decode cX10_init 14 = .ok (.sipush 602, 3) := by decide +kernel
theorem dX10_init_17 : decode cX10_init 17 = .ok (.newarray .int, 2) := by decide +kernel
theorem dX10_init_19 : decode cX10_init 19 = .ok (.putfield 24, 3) := by decide +kernel
theorem dX10_init_22 : decode cX10_init 22 = .ok (.aload_n 0, 1) := by decide +kernel
theorem dX10_init_23 : decode cX10_init 23 = .ok (.sipush 602, 3) := by decide +kernel
theorem dX10_init_26 : decode cX10_init 26 = .ok (.newarray .int, 2) := by decide +kernel
theorem dX10_init_28 : decode cX10_init 28 = .ok (.putfield 27, 3) := by decide +kernel
theorem dX10_init_31 : decode cX10_init 31 = .ok (.aload_n 0, 1) := by decide +kernel
theorem dX10_init_32 : decode cX10_init 32 = .ok (.sipush 602, 3) := by decide +kernel
theorem dX10_init_35 : decode cX10_init 35 = .ok (.newarray .long, 2) := by decide +kernel
theorem dX10_init_37 : decode cX10_init 37 = .ok (.putfield 30, 3) := by decide +kernel
theorem dX10_init_40 : decode cX10_init 40 = .ok (.aload_n 0, 1) := by decide +kernel
theorem dX10_init_41 : decode cX10_init 41 = .ok (.bipush 9, 2) := by decide +kernel
theorem dX10_init_43 : decode cX10_init 43 = .ok (.newarray .long, 2) := by decide +kernel
theorem dX10_init_45 : decode cX10_init 45 = .ok (.dup, 1) := by decide +kernel
theorem dX10_init_46 : decode cX10_init 46 = .ok (.iconst 0, 1) := by decide +kernel
theorem dX10_init_47 : decode cX10_init 47 = .ok (.ldc2_w 34, 3) := by decide +kernel
theorem dX10_init_50 : decode cX10_init 50 = .ok (.lastore, 1) := by decide +kernel
theorem dX10_init_51 : decode cX10_init 51 = .ok (.dup, 1) := by decide +kernel
theorem dX10_init_52 : decode cX10_init 52 = .ok (.iconst 1, 1) := by decide +kernel
theorem dX10_init_53 : decode cX10_init 53 = .ok (.ldc2_w 36, 3) := by decide +kernel
theorem dX10_init_56 : decode cX10_init 56 = .ok (.lastore, 1) := by decide +kernel
theorem dX10_init_57 : decode cX10_init 57 = .ok (.dup, 1) := by decide +kernel
theorem dX10_init_58 : decode cX10_init 58 = .ok (.iconst 2, 1) := by decide +kernel
theorem dX10_init_59 : decode cX10_init 59 = .ok (.ldc2_w 38, 3) := by decide +kernel
theorem dX10_init_62 : decode cX10_init 62 = .ok (.lastore, 1) := by decide +kernel
theorem dX10_init_63 : decode cX10_init 63 = .ok (.dup, 1) := by decide +kernel
theorem dX10_init_64 : decode cX10_init 64 = .ok (.iconst 3, 1) := by decide +kernel
theorem dX10_init_65 : decode cX10_init 65 = .ok (.ldc2_w 40, 3) := by decide +kernel
theorem dX10_init_68 : decode cX10_init 68 = .ok (.lastore, 1) := by decide +kernel
theorem dX10_init_69 : decode cX10_init 69 = .ok (.dup, 1) := by decide +kernel
theorem dX10_init_70 : decode cX10_init 70 = .ok (.iconst 4, 1) := by decide +kernel
theorem dX10_init_71 : decode cX10_init 71 = .ok (.ldc2_w 42, 3) := by decide +kernel
theorem dX10_init_74 : decode cX10_init 74 = .ok (.lastore, 1) := by decide +kernel
theorem dX10_init_75 : decode cX10_init 75 = .ok (.dup, 1) := by decide +kernel
theorem dX10_init_76 : decode cX10_init 76 = .ok (.iconst 5, 1) := by decide +kernel
theorem dX10_init_77 : decode cX10_init 77 = .ok (.ldc2_w 44, 3) := by decide +kernel
theorem dX10_init_80 : decode cX10_init 80 = .ok (.lastore, 1) := by decide +kernel
theorem dX10_init_81 : decode cX10_init 81 = .ok (.dup, 1) := by decide +kernel
theorem dX10_init_82 : decode cX10_init 82 = .ok (.bipush 6, 2) := by decide +kernel
theorem dX10_init_84 : decode cX10_init 84 = .ok (.ldc2_w 46, 3) := by decide +kernel
theorem dX10_init_87 : decode cX10_init 87 = .ok (.lastore, 1) := by decide +kernel
theorem dX10_init_88 : decode cX10_init 88 = .ok (.dup, 1) := by decide +kernel
theorem dX10_init_89 : decode cX10_init 89 = .ok (.bipush 7, 2) := by decide +kernel
theorem dX10_init_91 : decode cX10_init 91 = .ok (.ldc2_w 48, 3) := by decide +kernel
theorem dX10_init_94 : decode cX10_init 94 = .ok (.lastore, 1) := by decide +kernel
theorem dX10_init_95 : decode cX10_init 95 = .ok (.dup, 1) := by decide +kernel
theorem dX10_init_96 : decode cX10_init 96 = .ok (.bipush 8, 2) := by decide +kernel
theorem dX10_init_98 : decode cX10_init 98 = .ok (.ldc2_w 50, 3) := by decide +kernel
theorem dX10_init_101 : decode cX10_init 101 = .ok (.lastore, 1) := by decide +kernel
theorem dX10_init_102 : decode cX10_init 102 = .ok (.putfield 52, 3) := by decide +kernel
theorem dX10_init_105 : decode cX10_init 105 = .ok (.aload_n 0, 1) := by decide +kernel
theorem dX10_init_106 : decode cX10_init 106 = .ok (.iconst 2, 1) := by decide +kernel
theorem dX10_init_107 : decode cX10_init 107 = .ok (.newarray .int, 2) := by decide +kernel
theorem dX10_init_109 : decode cX10_init 109 = .ok (.putfield 55, 3) := by decide +kernel
theorem dX10_init_112 : decode cX10_init 112 = .ok (.aload_n 0, 1) := by decide +kernel
theorem dX10_init_113 : decode cX10_init 113 = .ok (.bipush 32, 2) := by decide +kernel
theorem dX10_init_115 : decode cX10_init 115 = .ok (.newarray .int, 2) := by decide +kernel
theorem dX10_init_117 : decode cX10_init 117 = .ok (.putfield 58, 3) := by decide +kernel
theorem dX10_init_120 : decode cX10_init 120 = .ok (.aload_n 0, 1) := by decide +kernel
theorem dX10_init_121 : decode cX10_init 121 = .ok (.bipush 32, 2) := by decide +kernel
theorem dX10_init_123 : decode cX10_init 123 = .ok (.newarray .int, 2) := by decide +kernel
theorem dX10_init_125 : decode cX10_init 125 = .ok (.putfield 61, 3) := by decide +kernel
theorem dX10_init_128 : decode cX10_init 128 = .ok (.aload_n 0, 1) := by decide +kernel
theorem dX10_init_129 : decode cX10_init 129 = .ok (.sipush 1320, 3) := by decide +kernel
theorem dX10_init_132 : decode cX10_init 132 = .ok (.newarray .int, 2) := by decide +kernel
theorem dX10_init_134 : decode cX10_init 134 = .ok (.putfield 64, 3) := by decide +kernel
theorem dX10_init_137 : decode cX10_init 137 = .ok (.aload_n 0, 1) := by decide +kernel
theorem dX10_init_138 : decode cX10_init 138 = .ok (.sipush 1320, 3) := by decide +kernel
theorem dX10_init_141 : decode cX10_init 141 = .ok (.newarray .int, 2) := by decide +kernel
theorem dX10_init_143 : decode cX10_init 143 = .ok (.putfield 67, 3) := by decide +kernel
theorem dX10_init_146 : decode cX10_init 146 = .ok (.aload_n 0, 1) := by decide +kernel
theorem dX10_init_147 : decode cX10_init 147 = .ok (.bipush 7, 2) := by decide +kernel
theorem dX10_init_149 : decode cX10_init 149 = .ok (.newarray .int, 2) := by decide +kernel
theorem dX10_init_151 : decode cX10_init 151 = .ok (.putfield 70, 3) := by decide +kernel
theorem dX10_init_154 : decode cX10_init 154 = .ok (.aload_n 0, 1) := by decide +kernel
theorem dX10_init_155 : decode cX10_init 155 = .ok (.bipush 7, 2) := by decide +kernel
theorem dX10_init_157 : decode cX10_init 157 = .ok (.newarray .int, 2) := by decide +kernel
theorem dX10_init_159 : decode cX10_init 159 = .ok (.putfield 73, 3) := by decide +kernel
theorem dX10_init_162 : decode cX10_init 162 = .ok (.aload_n 0, 1) := by decide +kernel
theorem dX10_init_163 : decode cX10_init 163 = .ok (.bipush 7, 2) := by decide +kernel
theorem dX10_init_165 : decode cX10_init 165 = .ok (.newarray .int, 2) := by decide +kernel
theorem dX10_init_167 : decode cX10_init 167 = .ok (.putfield 76, 3) := by decide +kernel
theorem dX10_init_170 : decode cX10_init 170 = .ok (.aload_n 0, 1) := by decide +kernel
theorem dX10_init_171 : decode cX10_init 171 = .ok (.bipush 6, 2) := by decide +kernel
theorem dX10_init_173 : decode cX10_init 173 = .ok (.newarray .int, 2) := by decide +kernel
theorem dX10_init_175 : decode cX10_init 175 = .ok (.putfield 79, 3) := by decide +kernel
theorem dX10_init_178 : decode cX10_init 178 = .ok (.aload_n 0, 1) := by decide +kernel
theorem dX10_init_179 : decode cX10_init 179 = .ok (.sipush 660, 3) := by decide +kernel
theorem dX10_init_182 : decode cX10_init 182 = .ok (.newarray .int, 2) := by decide +kernel
theorem dX10_init_184 : decode cX10_init 184 = .ok (.putfield 82, 3) := by decide +kernel
theorem dX10_init_187 : decode cX10_init 187 = .ok (.aload_n 0, 1) := by decide +kernel
theorem dX10_init_188 : decode cX10_init 188 = .ok (.bipush 60, 2) := by decide +kernel
theorem dX10_init_190 : decode cX10_init 190 = .ok (.newarray .int, 2) := by decide +kernel
theorem dX10_init_192 : decode cX10_init 192 = .ok (.putfield 85, 3) := by decide +kernel
theorem dX10_init_195 : decode cX10_init 195 = .ok (.aload_n 0, 1) := by decide +kernel
theorem dX10_init_196 : decode cX10_init 196 = .ok (.bipush 60, 2) := by decide +kernel
theorem dX10_init_198 : decode cX10_init 198 = .ok (.newarray .int, 2) := by decide +kernel
theorem dX10_init_200 : decode cX10_init 200 = .ok (.putfield 88, 3) := by decide +kernel
theorem dX10_init_203 : decode cX10_init 203 = .ok (.aload_n 0, 1) := by decide +kernel
theorem dX10_init_204 : decode cX10_init 204 = .ok (.bipush 60, 2) := by decide +kernel
theorem dX10_init_206 : decode cX10_init 206 = .ok (.newarray .int, 2) := by decide +kernel
theorem dX10_init_208 : decode cX10_init 208 = .ok (.putfield 91, 3) := by decide +kernel
theorem dX10_init_211 : decode cX10_init 211 = .ok (.aload_n 0, 1) := by decide +kernel
theorem dX10_init_212 : decode cX10_init 212 = .ok (.bipush 60, 2) := by decide +kernel
theorem dX10_init_214 : decode cX10_init 214 = .ok (.newarray .int, 2) := by decide +kernel
theorem dX10_init_216 : decode cX10_init 216 = .ok (.putfield 94, 3) := by decide +kernel
theorem dX10_init_219 : decode cX10_init 219 = .ok (.aload_n 0, 1) := by decide +kernel
theorem dX10_init_220 : decode cX10_init 220 = .ok (.bipush 60, 2) := by decide +kernel
theorem dX10_init_222 : decode cX10_init 222 = .ok (.newarray .int, 2) := by decide +kernel
theorem dX10_init_224 : decode cX10_init 224 = .ok (.putfield 97, 3) := by decide +kernel
theorem dX10_init_227 : decode cX10_init 227 = .ok (.aload_n 0, 1) := by decide +kernel
theorem dX10_init_228 : decode cX10_init 228 = .ok (.bipush 60, 2) := by decide +kernel
theorem dX10_init_230 : decode cX10_init 230 = .ok (.newarray .int, 2) := by decide +kernel
theorem dX10_init_232 : decode cX10_init 232 = .ok (.putfield 100, 3) := by decide +kernel
theorem dX10_init_235 : decode cX10_init 235 = .ok (.aload_n 0, 1) := by decide +kernel
theorem dX10_init_236 : decode cX10_init 236 = .ok (.bipush 6, 2) := by decide +kernel
theorem dX10_init_238 : decode cX10_init 238 = .ok (.newarray .int, 2) := by decide +kernel
theorem dX10_init_240 : decode cX10_init 240 = .ok (.putfield 103, 3) := by decide +kernel
theorem dX10_init_243 : decode cX10_init 243 = .ok (.aload_n 0, 1) := by decide +kernel
theorem dX10_init_244 : decode cX10_init 244 = .ok (.bipush 6, 2) := by decide +kernel
theorem dX10_init_246 : decode cX10_init 246 = .ok (.newarray .int, 2) := by decide +kernel
theorem dX10_init_248 : decode cX10_init 248 = .ok (.putfield 106, 3) := by decide +kernel
theorem dX10_init_251 : decode cX10_init 251 = .ok (.aload_n 0, 1) := by decide +kernel
theorem dX10_init_252 : decode cX10_init 252 = .ok (.bipush 10, 2) := by decide +kernel
theorem dX10_init_254 : decode cX10_init 254 = .ok (.newarray .int, 2) := by decide +kernel
theorem dX10_init_256 : decode cX10_init 256 = .ok (.putfield 109, 3) := by decide +kernel
theorem dX10_init_259 : decode cX10_init 259 = .ok (.aload_n 0, 1) := by decide +kernel
theorem dX10_init_260 : decode cX10_init 260 = .ok (.bipush 10, 2) := by decide +kernel
theorem dX10_init_262 : decode cX10_init 262 = .ok (.newarray .long, 2) := by decide +kernel
theorem dX10_init_264 : decode cX10_init 264 = .ok (.putfield 112, 3) := by decide +kernel
theorem dX10_init_267 : decode cX10_init 267 = .ok (.aload_n 0, 1) := by decide +kernel
theorem dX10_init_268 : decode cX10_init 268 = .ok (.bipush 100, 2) := by decide +kernel
theorem dX10_init_270 : decode cX10_init 270 = .ok (.newarray .int, 2) := by decide +kernel
theorem dX10_init_272 : decode cX10_init 272 = .ok (.putfield 115, 3) := by decide +kernel
theorem dX10_init_275 : decode cX10_init 275 = .ok (.aload_n 0, 1) := by decide +kernel
theorem dX10_init_276 : decode cX10_init 276 = .ok (.bipush 100, 2) := by decide +kernel
theorem dX10_init_278 : decode cX10_init 278 = .ok (.newarray .int, 2) := by decide +kernel
theorem dX10_init_280 : decode cX10_init 280 = .ok (.putfield 118, 3) := by decide +kernel
theorem dX10_init_283 : decode cX10_init 283 = .ok (.aload_n 0, 1) := by decide +kernel
theorem dX10_init_284 : decode cX10_init 284 = .ok (.bipush 100, 2) := by decide +kernel
theorem dX10_init_286 : decode cX10_init 286 = .ok (.newarray .int, 2) := by decide +kernel
theorem dX10_init_288 : decode cX10_init 288 = .ok (.putfield 121, 3) := by decide +kernel
theorem dX10_init_291 : decode cX10_init 291 = .ok (.aload_n 0, 1) := by decide +kernel
theorem dX10_init_292 : decode cX10_init 292 = .ok (.bipush 100, 2) := by decide +kernel
theorem dX10_init_294 : decode cX10_init 294 = .ok (.newarray .int, 2) := by decide +kernel
theorem dX10_init_296 : decode cX10_init 296 = .ok (.putfield 124, 3) := by decide +kernel
theorem dX10_init_299 : decode cX10_init 299 = .ok (.aload_n 0, 1) := by decide +kernel
theorem dX10_init_300 : decode cX10_init 300 = .ok (.bipush 50, 2) := by decide +kernel
theorem dX10_init_302 : decode cX10_init 302 = .ok (.newarray .int, 2) := by decide +kernel
theorem dX10_init_304 : decode cX10_init 304 = .ok (.putfield 127, 3) := by decide +kernel
theorem dX10_init_307 : decode cX10_init 307 = .ok (.aload_n 0, 1) := by decide +kernel
theorem dX10_init_308 : decode cX10_init 308 = .ok (.bipush 10, 2) := by decide +kernel
theorem dX10_init_310 : decode cX10_init 310 = .ok (.newarray .boolean, 2) := by decide +kernel
theorem dX10_init_312 : decode cX10_init 312 = .ok (.putfield 130, 3) := by decide +kernel
theorem dX10_init_315 : decode cX10_init 315 = .ok (.aload_n 0, 1) := by decide +kernel
theorem dX10_init_316 : decode cX10_init 316 = .ok (.bipush 60, 2) := by decide +kernel
theorem dX10_init_318 : decode cX10_init 318 = .ok (.newarray .int, 2) := by decide +kernel
theorem dX10_init_320 : decode cX10_init 320 = .ok (.putfield 134, 3) := by decide +kernel
theorem dX10_init_323 : decode cX10_init 323 = .ok (.aload_n 0, 1) := by decide +kernel
theorem dX10_init_324 : decode cX10_init 324 = .ok (.sipush 6100, 3) := by decide +kernel
theorem dX10_init_327 : decode cX10_init 327 = .ok (.newarray .int, 2) := by decide +kernel
theorem dX10_init_329 : decode cX10_init 329 = .ok (.putfield 137, 3) := by decide +kernel
theorem dX10_init_332 : decode cX10_init 332 = .ok (.aload_n 0, 1) := by decide +kernel
theorem dX10_init_333 : decode cX10_init 333 = .ok (.sipush 6100, 3) := by decide +kernel
theorem dX10_init_336 : decode cX10_init 336 = .ok (.newarray .int, 2) := by decide +kernel
theorem dX10_init_338 : decode cX10_init 338 = .ok (.putfield 140, 3) := by decide +kernel
theorem dX10_init_341 : decode cX10_init 341 = .ok (.aload_n 0, 1) := by decide +kernel
theorem dX10_init_342 : decode cX10_init 342 = .ok (.sipush 600, 3) := by decide +kernel
theorem dX10_init_345 : decode cX10_init 345 = .ok (.newarray .int, 2) := by decide +kernel
theorem dX10_init_347 : decode cX10_init 347 = .ok (.putfield 143, 3) := by decide +kernel
theorem dX10_init_350 : decode cX10_init 350 = .ok (.aload_n 0, 1) := by decide +kernel
theorem dX10_init_351 : decode cX10_init 351 = .ok (.sipush 600, 3) := by decide +kernel
theorem dX10_init_354 : decode cX10_init 354 = .ok (.newarray .int, 2) := by decide +kernel
theorem dX10_init_356 : decode cX10_init 356 = .ok (.putfield 146, 3) := by decide +kernel
theorem dX10_init_359 : decode cX10_init 359 = .ok (.aload_n 0, 1) := by decide +kernel
theorem dX10_init_360 : decode cX10_init 360 = .ok (.bipush 100, 2) := by decide +kernel
theorem dX10_init_362 : decode cX10_init 362 = .ok (.newarray .int, 2) := by decide +kernel
theorem dX10_init_364 : decode cX10_init 364 = .ok (.putfield 149, 3) := by decide +kernel
theorem dX10_init_367 : decode cX10_init 367 = .ok (.iconst 0, 1) := by decide +kernel
theorem dX10_init_368 : decode cX10_init 368 = .ok (.istore_n 1, 1) := by decide +kernel
theorem dX10_init_369 : decode cX10_init 369 = .ok (.iload_n 1, 1) := by decide +kernel
theorem dX10_init_370 : decode cX10_init 370 = .ok (.bipush 10, 2) := by decide +kernel
theorem dX10_init_372 : decode cX10_init 372 = .ok (.if_icmp .ge 40, 3) := by decide +kernel
theorem dX10_init_375 : decode cX10_init 375 = .ok (.aload_n 0, 1) := by decide +kernel
theorem dX10_init_376 : decode cX10_init 376 = .ok (.getfield 109, 3) := by decide +kernel
