theorem dX0_init_0 : decode cX0_init 0 = .ok (.aload_n 0, 1) := by decide +kernel
theorem dX0_init_1 : decode cX0_init 1 = .ok (.invokespecial 3, 3) := by decide +kernel
theorem dX0_init_4 : decode cX0_init 4 = .ok (.aload_n 0, 1) := by decide +kernel
theorem dX0_init_5 : decode cX0_init 5 = .ok (.iconst 0, 1) := by decide +kernel
theorem dX0_init_6 : decode cX0_init 6 = .ok (.putfield 9, 3) := by decide +kernel
theorem dX0_init_9 : decode cX0_init 9 = .ok (.aload_n 0, 1) := by decide +kernel
theorem dX0_init_10 : decode cX0_init 10 = .ok (.new 15, 3) := by decide +kernel
theorem dX0_init_13 : decode cX0_init 13 = .ok (.dup, 1) := by decide +kernel
theorem dX0_init_14 : decode cX0_init 14 = .ok (.invokespecial 17, 3) := by decide +kernel
theorem dX0_init_17 : decode cX0_init 17 = .ok (.putfield 18, 3) := by decide +kernel
theorem dX0_init_20 : decode cX0_init 20 = .ok (.aload_n 0, 1) := by decide +kernel
theorem dX0_init_21 : decode cX0_init 21 = .ok (.bipush 20, 2) := by decide +kernel
theorem dX0_init_23 : decode cX0_init 23 = .ok (.newarray .int, 2) := by decide +kernel
theorem dX0_init_25 : decode cX0_init 25 = .ok (.putfield 22, 3) := by decide +kernel
theorem dX0_init_28 : decode cX0_init 28 = .ok (.aload_n 0, 1) := by decide +kernel
theorem dX0_init_29 : decode cX0_init 29 = .ok (.bipush 20, 2) := by decide +kernel
theorem dX0_init_31 : decode cX0_init 31 = .ok (.newarray .int, 2) := by decide +kernel
theorem dX0_init_33 : decode cX0_init 33 = .ok (.putfield 26, 3) := by decide +kernel
theorem dX0_init_36 : decode cX0_init 36 = .ok (.aload_n 0, 1) := by decide +kernel
theorem dX0_init_37 : decode cX0_init 37 = .ok (.bipush 20, 2) := by decide +kernel
theorem dX0_init_39 : decode cX0_init 39 = .ok (.newarray .int, 2) := by decide +kernel
theorem dX0_init_41 : decode cX0_init 41 = .ok (.putfield 29, 3) := by decide +kernel
theorem dX0_init_44 : decode cX0_init 44 = .ok (.aload_n 0, 1) := by decide +kernel
theorem dX0_init_45 : decode cX0_init 45 = .ok (.bipush 20, 2) := by decide +kernel
theorem dX0_init_47 : decode cX0_init 47 = .ok (.newarray .int, 2) := by decide +kernel
theorem dX0_init_49 : decode cX0_init 49 = .ok (.putfield 32, 3) := by decide +kernel
theorem dX0_init_52 : decode cX0_init 52 = .ok (.aload_n 0, 1) := by decide +kernel
theorem dX0_init_53 : decode cX0_init 53 = .ok (.bipush 20, 2) := by decide +kernel
theorem dX0_init_55 : decode cX0_init 55 = .ok (.newarray .int, 2) := by decide +kernel
theorem dX0_init_57 : decode cX0_init 57 = .ok (.putfield 35, 3) := by decide +kernel
theorem dX0_init_60 : decode cX0_init 60 = .ok (.return_, 1) := by decide +kernel
theorem dX0_has_0 : decode cX0_has 0 = .ok (.iload_n 1, 1) := by decide +kernel
theorem dX0_has_1 : decode cX0_has 1 = .ok (.ifCond .lt 15, 3) := by decide +kernel
theorem dX0_has_4 : decode cX0_has 4 = .ok (.iload_n 1, 1) := by decide +kernel
theorem dX0_has_5 : decode cX0_has 5 = .ok (.aload_n 0, 1) := by decide +kernel
theorem dX0_has_6 : decode cX0_has 6 = .ok (.getfield 9, 3) := by decide +kernel
theorem dX0_has_9 : decode cX0_has 9 = .ok (.if_icmp .ge 7, 3) := by decide +kernel
theorem dX0_has_12 : decode cX0_has 12 = .ok (.iconst 1, 1) := by decide +kernel
theorem dX0_has_13 : decode cX0_has 13 = .ok (.goto 4, 3) := by decide +kernel
theorem dX0_has_16 : decode cX0_has 16 = .ok (.iconst 0, 1) := by decide +kernel
theorem dX0_has_17 : decode cX0_has 17 = .ok (.ireturn, 1) := by decide +kernel
theorem dX0_make_0 : decode cX0_make 0 = .ok (.iload_n 1, 1) := by decide +kernel
theorem dX0_make_1 : decode cX0_make 1 = .ok (.iconst 1, 1) := by decide +kernel
theorem dX0_make_2 : decode cX0_make 2 = .ok (.ldc 38, 2) := by decide +kernel
theorem dX0_make_4 : decode cX0_make 4 = .ok (.invokestatic 39, 3) := by decide +kernel
theorem dX0_make_7 : decode cX0_make 7 = .ok (.ifCond .eq 24, 3) := by decide +kernel
theorem dX0_make_10 : decode cX0_make 10 = .ok (.iload_n 2, 1) := by decide +kernel
theorem dX0_make_11 : decode cX0_make 11 = .ok (.invokestatic 43, 3) := by decide +kernel
theorem dX0_make_14 : decode cX0_make 14 = .ok (.ifCond .eq 17, 3) := by decide +kernel
theorem dX0_make_17 : decode cX0_make 17 = .ok (.iload_n 3, 1) := by decide +kernel
theorem dX0_make_18 : decode cX0_make 18 = .ok (.iconst 0, 1) := by decide +kernel
theorem dX0_make_19 : decode cX0_make 19 = .ok (.ldc 47, 2) := by decide +kernel
theorem dX0_make_21 : decode cX0_make 21 = .ok (.invokestatic 39, 3) := by decide +kernel
theorem dX0_make_24 : decode cX0_make 24 = .ok (.ifCond .eq 7, 3) := by decide +kernel
theorem dX0_make_27 : decode cX0_make 27 = .ok (.iconst 1, 1) := by decide +kernel
theorem dX0_make_28 : decode cX0_make 28 = .ok (.goto 4, 3) := by decide +kernel
theorem dX0_make_31 : decode cX0_make 31 = .ok (.iconst 0, 1) := by decide +kernel
theorem dX0_make_32 : decode cX0_make 32 = .ok (.istore 4, 2) := by decide +kernel
theorem dX0_make_34 : decode cX0_make 34 = .ok (.iload 4, 2) := by decide +kernel
theorem dX0_make_36 : decode cX0_make 36 = .ok (.ifCond .eq 12, 3) := by decide +kernel
theorem dX0_make_39 : decode cX0_make 39 = .ok (.aload_n 0, 1) := by decide +kernel
theorem dX0_make_40 : decode cX0_make 40 = .ok (.getfield 9, 3) := by decide +kernel
theorem dX0_make_43 : decode cX0_make 43 = .ok (.bipush 20, 2) := by decide +kernel
theorem dX0_make_45 : decode cX0_make 45 = .ok (.if_icmp .lt 5, 3) := by decide +kernel
theorem dX0_make_48 : decode cX0_make 48 = .ok (.iconst (-1), 1) := by decide +kernel
theorem dX0_make_49 : decode cX0_make 49 = .ok (.ireturn, 1) := by decide +kernel
theorem dX0_make_50 : decode cX0_make 50 = .ok (.aload_n 0, 1) := by decide +kernel
theorem dX0_make_51 : decode cX0_make 51 = .ok (.getfield 22, 3) := by decide +kernel
theorem dX0_make_54 : decode cX0_make 54 = .ok (.aload_n 0, 1) := by decide +kernel
theorem dX0_make_55 : decode cX0_make 55 = .ok (.getfield 9, 3) := by decide +kernel
theorem dX0_make_58 : decode cX0_make 58 = .ok (.iload_n 1, 1) := by decide +kernel
theorem dX0_make_59 : decode cX0_make 59 = .ok (.iastore, 1) := by decide +kernel
theorem dX0_make_60 : decode cX0_make 60 = .ok (.aload_n 0, 1) := by decide +kernel
theorem dX0_make_61 : decode cX0_make 61 = .ok (.getfield 26, 3) := by decide +kernel
theorem dX0_make_64 : decode cX0_make 64 = .ok (.aload_n 0, 1) := by decide +kernel
theorem dX0_make_65 : decode cX0_make 65 = .ok (.getfield 9, 3) := by decide +kernel
theorem dX0_make_68 : decode cX0_make 68 = .ok (.iload_n 2, 1) := by decide +kernel
theorem dX0_make_69 : decode cX0_make 69 = .ok (.iastore, 1) := by decide +kernel
theorem dX0_make_70 : decode cX0_make 70 = .ok (.aload_n 0, 1) := by decide +kernel
theorem dX0_make_71 : decode cX0_make 71 = .ok (.getfield 29, 3) := by decide +kernel
theorem dX0_make_74 : decode cX0_make 74 = .ok (.aload_n 0, 1) := by decide +kernel
theorem dX0_make_75 : decode cX0_make 75 = .ok (.getfield 9, 3) := by decide +kernel
theorem dX0_make_78 : decode cX0_make 78 = .ok (.iload_n 3, 1) := by decide +kernel
theorem dX0_make_79 : decode cX0_make 79 = .ok (.iastore, 1) := by decide +kernel
theorem dX0_make_80 : decode cX0_make 80 = .ok (.aload_n 0, 1) := by decide +kernel
theorem dX0_make_81 : decode cX0_make 81 = .ok (.getfield 32, 3) := by decide +kernel
theorem dX0_make_84 : decode cX0_make 84 = .ok (.aload_n 0, 1) := by decide +kernel
theorem dX0_make_85 : decode cX0_make 85 = .ok (.getfield 9, 3) := by decide +kernel
theorem dX0_make_88 : decode cX0_make 88 = .ok (.iconst (-1), 1) := by decide +kernel
theorem dX0_make_89 : decode cX0_make 89 = .ok (.iastore, 1) := by decide +kernel
theorem dX0_make_90 : decode cX0_make 90 = .ok (.aload_n 0, 1) := by decide +kernel
theorem dX0_make_91 : decode cX0_make 91 = .ok (.getfield 35, 3) := by decide +kernel
theorem dX0_make_94 : decode cX0_make 94 = .ok (.aload_n 0, 1) := by decide +kernel
theorem dX0_make_95 : decode cX0_make 95 = .ok (.getfield 9, 3) := by decide +kernel
theorem dX0_make_98 : decode cX0_make 98 = .ok (.iconst (-1), 1) := by decide +kernel
theorem dX0_make_99 : decode cX0_make 99 = .ok (.iastore, 1) := by decide +kernel
theorem dX0_make_100 : decode cX0_make 100 = .ok (.aload_n 0, 1) := by decide +kernel
theorem dX0_make_101 : decode cX0_make 101 = .ok (.dup, 1) := by decide +kernel
theorem dX0_make_102 : decode cX0_make 102 = .ok (.getfield 9, 3) := by decide +kernel
theorem dX0_make_105 : decode cX0_make 105 = .ok (.iconst 1, 1) := by decide +kernel
theorem dX0_make_106 : decode cX0_make 106 = .ok (.iadd, 1) := by decide +kernel
theorem dX0_make_107 : decode cX0_make 107 = .ok (.putfield 9, 3) := by decide +kernel
theorem dX0_make_110 : decode cX0_make 110 = .ok (.aload_n 0, 1) := by decide +kernel
theorem dX0_make_111 : decode cX0_make 111 = .ok (.getfield 9, 3) := by decide +kernel
theorem dX0_make_114 : decode cX0_make 114 = .ok (.iconst 1, 1) := by decide +kernel
theorem dX0_make_115 : decode cX0_make 115 = .ok (.isub, 1) := by decide +kernel
theorem dX0_make_116 : decode cX0_make 116 = .ok (.ireturn, 1) := by decide +kernel
theorem dX0_holderKnown_0 : decode cX0_holderKnown 0 = .ok (.aload_n 0, 1) := by decide +kernel
theorem dX0_holderKnown_1 : decode cX0_holderKnown 1 = .ok (.iload_n 1, 1) := by decide +kernel
theorem dX0_holderKnown_2 : decode cX0_holderKnown 2 = .ok (.invokevirtual 48, 3) := by decide +kernel
theorem dX0_holderKnown_5 : decode cX0_holderKnown 5 = .ok (.ifCond .eq 22, 3) := by decide +kernel
theorem dX0_holderKnown_8 : decode cX0_holderKnown 8 = .ok (.aload_n 0, 1) := by decide +kernel
theorem dX0_holderKnown_9 : decode cX0_holderKnown 9 = .ok (.getfield 18, 3) := by decide +kernel
theorem dX0_holderKnown_12 : decode cX0_holderKnown 12 = .ok (.iload_n 1, 1) := by decide +kernel
theorem dX0_holderKnown_13 : decode cX0_holderKnown 13 = .ok (.aload_n 0, 1) := by decide +kernel
theorem dX0_holderKnown_14 : decode cX0_holderKnown 14 = .ok (.getfield 26, 3) := by decide +kernel
theorem dX0_holderKnown_17 : decode cX0_holderKnown 17 = .ok (.iload_n 1, 1) := by decide +kernel
theorem dX0_holderKnown_18 : decode cX0_holderKnown 18 = .ok (.iaload, 1) := by decide +kernel
theorem dX0_holderKnown_19 : decode cX0_holderKnown 19 = .ok (.iload_n 2, 1) := by decide +kernel
theorem dX0_holderKnown_20 : decode cX0_holderKnown 20 = .ok (.iload_n 3, 1) := by decide +kernel
theorem dX0_holderKnown_21 : decode cX0_holderKnown 21 = .ok (.invokevirtual 51, 3) := by decide +kernel
theorem dX0_holderKnown_24 : decode cX0_holderKnown 24 = .ok (.goto 4, 3) := by decide +kernel
theorem dX0_holderKnown_27 : decode cX0_holderKnown 27 = .ok (.iconst (-1), 1) := by decide +kernel
theorem dX0_holderKnown_28 : decode cX0_holderKnown 28 = .ok (.ireturn, 1) := by decide +kernel
theorem dX0_settle_0 : decode cX0_settle 0 = .ok (.aload_n 0, 1) := by decide +kernel
theorem dX0_settle_1 : decode cX0_settle 1 = .ok (.iload_n 1, 1) := by decide +kernel
theorem dX0_settle_2 : decode cX0_settle 2 = .ok (.invokevirtual 48, 3) := by decide +kernel
theorem dX0_settle_5 : decode cX0_settle 5 = .ok (.ifCond .eq 23, 3) := by decide +kernel
theorem dX0_settle_8 : decode cX0_settle 8 = .ok (.aload_n 0, 1) := by decide +kernel
theorem dX0_settle_9 : decode cX0_settle 9 = .ok (.getfield 29, 3) := by decide +kernel
theorem dX0_settle_12 : decode cX0_settle 12 = .ok (.iload_n 1, 1) := by decide +kernel
theorem dX0_settle_13 : decode cX0_settle 13 = .ok (.iaload, 1) := by decide +kernel
theorem dX0_settle_14 : decode cX0_settle 14 = .ok (.iload_n 2, 1) := by decide +kernel
theorem dX0_settle_15 : decode cX0_settle 15 = .ok (.if_icmp .gt 13, 3) := by decide +kernel
theorem dX0_settle_18 : decode cX0_settle 18 = .ok (.aload_n 0, 1) := by decide +kernel
theorem dX0_settle_19 : decode cX0_settle 19 = .ok (.getfield 32, 3) := by decide +kernel
theorem dX0_settle_22 : decode cX0_settle 22 = .ok (.iload_n 1, 1) := by decide +kernel
theorem dX0_settle_23 : decode cX0_settle 23 = .ok (.iaload, 1) := by decide +kernel
theorem dX0_settle_24 : decode cX0_settle 24 = .ok (.iconst (-1), 1) := by decide +kernel
theorem dX0_settle_25 : decode cX0_settle 25 = .ok (.if_icmp .eq 5, 3) := by decide +kernel
theorem dX0_settle_28 : decode cX0_settle 28 = .ok (.iconst (-1), 1) := by decide +kernel
theorem dX0_settle_29 : decode cX0_settle 29 = .ok (.ireturn, 1) := by decide +kernel
theorem dX0_settle_30 : decode cX0_settle 30 = .ok (.aload_n 0, 1) := by decide +kernel
theorem dX0_settle_31 : decode cX0_settle 31 = .ok (.getfield 32, 3) := by decide +kernel
theorem dX0_settle_34 : decode cX0_settle 34 = .ok (.iload_n 1, 1) := by decide +kernel
theorem dX0_settle_35 : decode cX0_settle 35 = .ok (.iload_n 2, 1) := by decide +kernel
theorem dX0_settle_36 : decode cX0_settle 36 = .ok (.iastore, 1) := by decide +kernel
theorem dX0_settle_37 : decode cX0_settle 37 = .ok (.aload_n 0, 1) := by decide +kernel
theorem dX0_settle_38 : decode cX0_settle 38 = .ok (.getfield 35, 3) := by decide +kernel
theorem dX0_settle_41 : decode cX0_settle 41 = .ok (.iload_n 1, 1) := by decide +kernel
theorem dX0_settle_42 : decode cX0_settle 42 = .ok (.aload_n 0, 1) := by decide +kernel
theorem dX0_settle_43 : decode cX0_settle 43 = .ok (.iload_n 1, 1) := by decide +kernel
theorem dX0_settle_44 : decode cX0_settle 44 = .ok (.iload_n 2, 1) := by decide +kernel
theorem dX0_settle_45 : decode cX0_settle 45 = .ok (.iload_n 2, 1) := by decide +kernel
theorem dX0_settle_46 : decode cX0_settle 46 = .ok (.invokevirtual 55, 3) := by decide +kernel
theorem dX0_settle_49 : decode cX0_settle 49 = .ok (.iastore, 1) := by decide +kernel
theorem dX0_settle_50 : decode cX0_settle 50 = .ok (.aload_n 0, 1) := by decide +kernel
theorem dX0_settle_51 : decode cX0_settle 51 = .ok (.getfield 35, 3) := by decide +kernel
theorem dX0_settle_54 : decode cX0_settle 54 = .ok (.iload_n 1, 1) := by decide +kernel
theorem dX0_settle_55 : decode cX0_settle 55 = .ok (.iaload, 1) := by decide +kernel
theorem dX0_settle_56 : decode cX0_settle 56 = .ok (.ireturn, 1) := by decide +kernel
theorem dX0_tell_0 : decode cX0_tell 0 = .ok (.aload_n 0, 1) := by decide +kernel
theorem dX0_tell_1 : decode cX0_tell 1 = .ok (.iload_n 1, 1) := by decide +kernel
theorem dX0_tell_2 : decode cX0_tell 2 = .ok (.invokevirtual 48, 3) := by decide +kernel
theorem dX0_tell_5 : decode cX0_tell 5 = .ok (.ifCond .ne 5, 3) := by decide +kernel
theorem dX0_tell_8 : decode cX0_tell 8 = .ok (.iconst (-1), 1) := by decide +kernel
theorem dX0_tell_9 : decode cX0_tell 9 = .ok (.ireturn, 1) := by decide +kernel
theorem dX0_tell_10 : decode cX0_tell 10 = .ok (.iload_n 2, 1) := by decide +kernel
theorem dX0_tell_11 : decode cX0_tell 11 = .ok (.tableswitch 46 0 2 #[25, 32, 39], 25) := by decide +kernel
theorem dX0_tell_36 : decode cX0_tell 36 = .ok (.aload_n 0, 1) := by decide +kernel
theorem dX0_tell_37 : decode cX0_tell 37 = .ok (.getfield 22, 3) := by decide +kernel
theorem dX0_tell_40 : decode cX0_tell 40 = .ok (.iload_n 1, 1) := by decide +kernel
theorem dX0_tell_41 : decode cX0_tell 41 = .ok (.iaload, 1) := by decide +kernel
theorem dX0_tell_42 : decode cX0_tell 42 = .ok (.ireturn, 1) := by decide +kernel
theorem dX0_tell_43 : decode cX0_tell 43 = .ok (.aload_n 0, 1) := by decide +kernel
theorem dX0_tell_44 : decode cX0_tell 44 = .ok (.getfield 32, 3) := by decide +kernel
theorem dX0_tell_47 : decode cX0_tell 47 = .ok (.iload_n 1, 1) := by decide +kernel
theorem dX0_tell_48 : decode cX0_tell 48 = .ok (.iaload, 1) := by decide +kernel
theorem dX0_tell_49 : decode cX0_tell 49 = .ok (.ireturn, 1) := by decide +kernel
theorem dX0_tell_50 : decode cX0_tell 50 = .ok (.aload_n 0, 1) := by decide +kernel
theorem dX0_tell_51 : decode cX0_tell 51 = .ok (.getfield 35, 3) := by decide +kernel
theorem dX0_tell_54 : decode cX0_tell 54 = .ok (.iload_n 1, 1) := by decide +kernel
theorem dX0_tell_55 : decode cX0_tell 55 = .ok (.iaload, 1) := by decide +kernel
theorem dX0_tell_56 : decode cX0_tell 56 = .ok (.ireturn, 1) := by decide +kernel
theorem dX0_tell_57 : decode cX0_tell 57 = .ok (.iconst (-1), 1) := by decide +kernel
theorem dX0_tell_58 : decode cX0_tell 58 = .ok (.ireturn, 1) := by decide +kernel
theorem dX1_init_0 : decode cX1_init 0 = .ok (.aload_n 0, 1) := by decide +kernel
theorem dX1_init_1 : decode cX1_init 1 = .ok (.invokespecial 3, 3) := by decide +kernel
theorem dX1_init_4 : decode cX1_init 4 = .ok (.aload_n 0, 1) := by decide +kernel
theorem dX1_init_5 : decode cX1_init 5 = .ok (.iconst 0, 1) := by decide +kernel
theorem dX1_init_6 : decode cX1_init 6 = .ok (.putfield 9, 3) := by decide +kernel
theorem dX1_init_9 : decode cX1_init 9 = .ok (.aload_n 0, 1) := by decide +kernel
theorem dX1_init_10 : decode cX1_init 10 = .ok (.iconst 0, 1) := by decide +kernel
theorem dX1_init_11 : decode cX1_init 11 = .ok (.putfield 15, 3) := by decide +kernel
theorem dX1_init_14 : decode cX1_init 14 = .ok (.aload_n 0, 1) := by decide +kernel
theorem dX1_init_15 : decode cX1_init 15 = .ok (.new 18, 3) := by decide +kernel
theorem dX1_init_18 : decode cX1_init 18 = .ok (.dup, 1) := by decide +kernel
theorem dX1_init_19 : decode cX1_init 19 = .ok (.invokespecial 20, 3) := by decide +kernel
theorem dX1_init_22 : decode cX1_init 22 = .ok (.putfield 21, 3) := by decide +kernel
theorem dX1_init_25 : decode cX1_init 25 = .ok (.aload_n 0, 1) := by decide +kernel
theorem dX1_init_26 : decode cX1_init 26 = .ok (.iconst 0, 1) := by decide +kernel
theorem dX1_init_27 : decode cX1_init 27 = .ok (.putfield 25, 3) := by decide +kernel
theorem dX1_init_30 : decode cX1_init 30 = .ok (.aload_n 0, 1) := by decide +kernel
theorem dX1_init_31 : decode cX1_init 31 = .ok (.iconst 0, 1) := by decide +kernel
theorem dX1_init_32 : decode cX1_init 32 = .ok (.putfield 28, 3) := by decide +kernel
theorem dX1_init_35 : decode cX1_init 35 = .ok (.aload_n 0, 1) := by decide +kernel
theorem dX1_init_36 : decode cX1_init 36 = .ok (.iconst 0, 1) := by decide +kernel
theorem dX1_init_37 : decode cX1_init 37 = .ok (.putfield 31, 3) := by decide +kernel
theorem dX1_init_40 : decode cX1_init 40 = .ok (.aload_n 0, 1) := by decide +kernel
theorem dX1_init_41 : decode cX1_init 41 = .ok (.iconst 0, 1) := by decide +kernel
theorem dX1_init_42 : decode cX1_init 42 = .ok (.putfield 34, 3) := by decide +kernel
theorem dX1_init_45 : decode cX1_init 45 = .ok (.aload_n 0, 1) := by decide +kernel
theorem dX1_init_46 : decode cX1_init 46 = .ok (.iconst 0, 1) := by decide +kernel
theorem dX1_init_47 : decode cX1_init 47 = .ok (.putfield 37, 3) := by decide +kernel
theorem dX1_init_50 : decode cX1_init 50 = .ok (.aload_n 0, 1) := by decide +kernel
theorem dX1_init_51 : decode cX1_init 51 = .ok (.iload_n 1, 1) := by decide +kernel
theorem dX1_init_52 : decode cX1_init 52 = .ok (.putfield 40, 3) := by decide +kernel
theorem dX1_init_55 : decode cX1_init 55 = .ok (.aload_n 0, 1) := by decide +kernel
theorem dX1_init_56 : decode cX1_init 56 = .ok (.iload_n 2, 1) := by decide +kernel
theorem dX1_init_57 : decode cX1_init 57 = .ok (.putfield 43, 3) := by decide +kernel
theorem dX1_init_60 : decode cX1_init 60 = .ok (.aload_n 0, 1) := by decide +kernel
theorem dX1_init_61 : decode cX1_init 61 = .ok (.iload_n 3, 1) := by decide +kernel
theorem dX1_init_62 : decode cX1_init 62 = .ok (.putfield 46, 3) := by decide +kernel
theorem dX1_init_65 : decode cX1_init 65 = .ok (.aload_n 0, 1) := by decide +kernel
theorem dX1_init_66 : decode cX1_init 66 = .ok (.iload 4, 2) := by decide +kernel
theorem dX1_init_68 : decode cX1_init 68 = .ok (.putfield 49, 3) := by decide +kernel
theorem dX1_init_71 : decode cX1_init 71 = .ok (.return_, 1) := by decide +kernel
theorem dX1_want_0 : decode cX1_want 0 = .ok (.aload_n 0, 1) := by decide +kernel
theorem dX1_want_1 : decode cX1_want 1 = .ok (.getfield 40, 3) := by decide +kernel
theorem dX1_want_4 : decode cX1_want 4 = .ok (.aload_n 0, 1) := by decide +kernel
theorem dX1_want_5 : decode cX1_want 5 = .ok (.getfield 46, 3) := by decide +kernel
theorem dX1_want_8 : decode cX1_want 8 = .ok (.imul, 1) := by decide +kernel
theorem dX1_want_9 : decode cX1_want 9 = .ok (.ireturn, 1) := by decide +kernel
theorem dX1_sellOnTheWay_0 : decode cX1_sellOnTheWay 0 = .ok (.aload_n 0, 1) := by decide +kernel
theorem dX1_sellOnTheWay_1 : decode cX1_sellOnTheWay 1 = .ok (.iload_n 1, 1) := by decide +kernel
theorem dX1_sellOnTheWay_2 : decode cX1_sellOnTheWay 2 = .ok (.invokevirtual 52, 3) := by decide +kernel
theorem dX1_sellOnTheWay_5 : decode cX1_sellOnTheWay 5 = .ok (.istore_n 3, 1) := by decide +kernel
theorem dX1_sellOnTheWay_6 : decode cX1_sellOnTheWay 6 = .ok (.aload_n 0, 1) := by decide +kernel
theorem dX1_sellOnTheWay_7 : decode cX1_sellOnTheWay 7 = .ok (.iload_n 3, 1) := by decide +kernel
theorem dX1_sellOnTheWay_8 : decode cX1_sellOnTheWay 8 = .ok (.aload_n 0, 1) := by decide +kernel
theorem dX1_sellOnTheWay_9 : decode cX1_sellOnTheWay 9 = .ok (.getfield 43, 3) := by decide +kernel
theorem dX1_sellOnTheWay_12 : decode cX1_sellOnTheWay 12 = .ok (.imul, 1) := by decide +kernel
theorem dX1_sellOnTheWay_13 : decode cX1_sellOnTheWay 13 = .ok (.iload_n 2, 1) := by decide +kernel
theorem dX1_sellOnTheWay_14 : decode cX1_sellOnTheWay 14 = .ok (.imul, 1) := by decide +kernel
theorem dX1_sellOnTheWay_15 : decode cX1_sellOnTheWay 15 = .ok (.sipush 200, 3) := by decide +kernel
theorem dX1_sellOnTheWay_18 : decode cX1_sellOnTheWay 18 = .ok (.idiv, 1) := by decide +kernel
theorem dX1_sellOnTheWay_19 : decode cX1_sellOnTheWay 19 = .ok (.invokevirtual 56, 3) := by decide +kernel
theorem dX1_sellOnTheWay_22 : decode cX1_sellOnTheWay 22 = .ok (.aload_n 0, 1) := by decide +kernel
theorem dX1_sellOnTheWay_23 : decode cX1_sellOnTheWay 23 = .ok (.getfield 40, 3) := by decide +kernel
theorem dX1_sellOnTheWay_26 : decode cX1_sellOnTheWay 26 = .ok (.ifCond .le 18, 3) := by decide +kernel
theorem dX1_sellOnTheWay_29 : decode cX1_sellOnTheWay 29 = .ok (.aload_n 0, 1) := by decide +kernel
theorem dX1_sellOnTheWay_30 : decode cX1_sellOnTheWay 30 = .ok (.iconst 0, 1) := by decide +kernel
theorem dX1_sellOnTheWay_31 : decode cX1_sellOnTheWay 31 = .ok (.aload_n 0, 1) := by decide +kernel
theorem dX1_sellOnTheWay_32 : decode cX1_sellOnTheWay 32 = .ok (.getfield 9, 3) := by decide +kernel
theorem dX1_sellOnTheWay_35 : decode cX1_sellOnTheWay 35 = .ok (.bipush 15, 2) := by decide +kernel
theorem dX1_sellOnTheWay_37 : decode cX1_sellOnTheWay 37 = .ok (.isub, 1) := by decide +kernel
theorem dX1_sellOnTheWay_38 : decode cX1_sellOnTheWay 38 = .ok (.invokestatic 60, 3) := by decide +kernel
theorem dX1_sellOnTheWay_41 : decode cX1_sellOnTheWay 41 = .ok (.putfield 9, 3) := by decide +kernel
theorem dX1_sellOnTheWay_44 : decode cX1_sellOnTheWay 44 = .ok (.return_, 1) := by decide +kernel
theorem dX1_sellAtFair_0 : decode cX1_sellAtFair 0 = .ok (.aload_n 0, 1) := by decide +kernel
theorem dX1_sellAtFair_1 : decode cX1_sellAtFair 1 = .ok (.aload_n 0, 1) := by decide +kernel
theorem dX1_sellAtFair_2 : decode cX1_sellAtFair 2 = .ok (.getfield 40, 3) := by decide +kernel
theorem dX1_sellAtFair_5 : decode cX1_sellAtFair 5 = .ok (.invokevirtual 52, 3) := by decide +kernel
theorem dX1_sellAtFair_8 : decode cX1_sellAtFair 8 = .ok (.istore_n 2, 1) := by decide +kernel
theorem dX1_sellAtFair_9 : decode cX1_sellAtFair 9 = .ok (.aload_n 0, 1) := by decide +kernel
theorem dX1_sellAtFair_10 : decode cX1_sellAtFair 10 = .ok (.iload_n 2, 1) := by decide +kernel
theorem dX1_sellAtFair_11 : decode cX1_sellAtFair 11 = .ok (.aload_n 0, 1) := by decide +kernel
theorem dX1_sellAtFair_12 : decode cX1_sellAtFair 12 = .ok (.getfield 43, 3) := by decide +kernel
theorem dX1_sellAtFair_15 : decode cX1_sellAtFair 15 = .ok (.imul, 1) := by decide +kernel
theorem dX1_sellAtFair_16 : decode cX1_sellAtFair 16 = .ok (.iload_n 1, 1) := by decide +kernel
theorem dX1_sellAtFair_17 : decode cX1_sellAtFair 17 = .ok (.imul, 1) := by decide +kernel
theorem dX1_sellAtFair_18 : decode cX1_sellAtFair 18 = .ok (.bipush 100, 2) := by decide +kernel
theorem dX1_sellAtFair_20 : decode cX1_sellAtFair 20 = .ok (.idiv, 1) := by decide +kernel
theorem dX1_sellAtFair_21 : decode cX1_sellAtFair 21 = .ok (.invokevirtual 56, 3) := by decide +kernel
theorem dX1_sellAtFair_24 : decode cX1_sellAtFair 24 = .ok (.return_, 1) := by decide +kernel
theorem dX1_sellHeads_0 : decode cX1_sellHeads 0 = .ok (.iload_n 1, 1) := by decide +kernel
theorem dX1_sellHeads_1 : decode cX1_sellHeads 1 = .ok (.aload_n 0, 1) := by decide +kernel
theorem dX1_sellHeads_2 : decode cX1_sellHeads 2 = .ok (.getfield 40, 3) := by decide +kernel
theorem dX1_sellHeads_5 : decode cX1_sellHeads 5 = .ok (.invokestatic 66, 3) := by decide +kernel
theorem dX1_sellHeads_8 : decode cX1_sellHeads 8 = .ok (.istore_n 2, 1) := by decide +kernel
theorem dX1_sellHeads_9 : decode cX1_sellHeads 9 = .ok (.aload_n 0, 1) := by decide +kernel
theorem dX1_sellHeads_10 : decode cX1_sellHeads 10 = .ok (.dup, 1) := by decide +kernel
theorem dX1_sellHeads_11 : decode cX1_sellHeads 11 = .ok (.getfield 40, 3) := by decide +kernel
theorem dX1_sellHeads_14 : decode cX1_sellHeads 14 = .ok (.iload_n 2, 1) := by decide +kernel
theorem dX1_sellHeads_15 : decode cX1_sellHeads 15 = .ok (.isub, 1) := by decide +kernel
theorem dX1_sellHeads_16 : decode cX1_sellHeads 16 = .ok (.putfield 40, 3) := by decide +kernel
theorem dX1_sellHeads_19 : decode cX1_sellHeads 19 = .ok (.aload_n 0, 1) := by decide +kernel
theorem dX1_sellHeads_20 : decode cX1_sellHeads 20 = .ok (.dup, 1) := by decide +kernel
theorem dX1_sellHeads_21 : decode cX1_sellHeads 21 = .ok (.getfield 31, 3) := by decide +kernel
theorem dX1_sellHeads_24 : decode cX1_sellHeads 24 = .ok (.iload_n 2, 1) := by decide +kernel
theorem dX1_sellHeads_25 : decode cX1_sellHeads 25 = .ok (.iadd, 1) := by decide +kernel
theorem dX1_sellHeads_26 : decode cX1_sellHeads 26 = .ok (.putfield 31, 3) := by decide +kernel
theorem dX1_sellHeads_29 : decode cX1_sellHeads 29 = .ok (.iload_n 2, 1) := by decide +kernel
theorem dX1_sellHeads_30 : decode cX1_sellHeads 30 = .ok (.ireturn, 1) := by decide +kernel
theorem dX1_earn_0 : decode cX1_earn 0 = .ok (.aload_n 0, 1) := by decide +kernel
theorem dX1_earn_1 : decode cX1_earn 1 = .ok (.ldc 69, 2) := by decide +kernel
theorem dX1_earn_3 : decode cX1_earn 3 = .ok (.aload_n 0, 1) := by decide +kernel
theorem dX1_earn_4 : decode cX1_earn 4 = .ok (.getfield 25, 3) := by decide +kernel
theorem dX1_earn_7 : decode cX1_earn 7 = .ok (.iload_n 1, 1) := by decide +kernel
theorem dX1_earn_8 : decode cX1_earn 8 = .ok (.iadd, 1) := by decide +kernel
theorem dX1_earn_9 : decode cX1_earn 9 = .ok (.invokestatic 66, 3) := by decide +kernel
theorem dX1_earn_12 : decode cX1_earn 12 = .ok (.putfield 25, 3) := by decide +kernel
theorem dX1_earn_15 : decode cX1_earn 15 = .ok (.return_, 1) := by decide +kernel
theorem dX1_walk_0 : decode cX1_walk 0 = .ok (.aload_n 0, 1) := by decide +kernel
theorem dX1_walk_1 : decode cX1_walk 1 = .ok (.dup, 1) := by decide +kernel
theorem dX1_walk_2 : decode cX1_walk 2 = .ok (.getfield 15, 3) := by decide +kernel
theorem dX1_walk_5 : decode cX1_walk 5 = .ok (.iconst 1, 1) := by decide +kernel
theorem dX1_walk_6 : decode cX1_walk 6 = .ok (.iadd, 1) := by decide +kernel
theorem dX1_walk_7 : decode cX1_walk 7 = .ok (.putfield 15, 3) := by decide +kernel
theorem dX1_walk_10 : decode cX1_walk 10 = .ok (.aload_n 0, 1) := by decide +kernel
theorem dX1_walk_11 : decode cX1_walk 11 = .ok (.dup, 1) := by decide +kernel
theorem dX1_walk_12 : decode cX1_walk 12 = .ok (.getfield 9, 3) := by decide +kernel
theorem dX1_walk_15 : decode cX1_walk 15 = .ok (.iload_n 1, 1) := by decide +kernel
theorem dX1_walk_16 : decode cX1_walk 16 = .ok (.iadd, 1) := by decide +kernel
theorem dX1_walk_17 : decode cX1_walk 17 = .ok (.putfield 9, 3) := by decide +kernel
theorem dX1_walk_20 : decode cX1_walk 20 = .ok (.aload_n 0, 1) := by decide +kernel
theorem dX1_walk_21 : decode cX1_walk 21 = .ok (.iconst 0, 1) := by decide +kernel
theorem dX1_walk_22 : decode cX1_walk 22 = .ok (.aload_n 0, 1) := by decide +kernel
theorem dX1_walk_23 : decode cX1_walk 23 = .ok (.getfield 43, 3) := by decide +kernel
theorem dX1_walk_26 : decode cX1_walk 26 = .ok (.iload_n 1, 1) := by decide +kernel
theorem dX1_walk_27 : decode cX1_walk 27 = .ok (.iconst 5, 1) := by decide +kernel
theorem dX1_walk_28 : decode cX1_walk 28 = .ok (.idiv, 1) := by decide +kernel
theorem dX1_walk_29 : decode cX1_walk 29 = .ok (.isub, 1) := by decide +kernel
theorem dX1_walk_30 : decode cX1_walk 30 = .ok (.invokestatic 60, 3) := by decide +kernel
theorem dX1_walk_33 : decode cX1_walk 33 = .ok (.putfield 43, 3) := by decide +kernel
theorem dX1_walk_36 : decode cX1_walk 36 = .ok (.aload_n 0, 1) := by decide +kernel
theorem dX1_walk_37 : decode cX1_walk 37 = .ok (.getfield 9, 3) := by decide +kernel
theorem dX1_walk_40 : decode cX1_walk 40 = .ok (.bipush 60, 2) := by decide +kernel
theorem dX1_walk_42 : decode cX1_walk 42 = .ok (.if_icmp .gt 5, 3) := by decide +kernel
theorem dX1_walk_45 : decode cX1_walk 45 = .ok (.iconst 0, 1) := by decide +kernel
theorem dX1_walk_46 : decode cX1_walk 46 = .ok (.ireturn, 1) := by decide +kernel
theorem dX1_walk_47 : decode cX1_walk 47 = .ok (.aload_n 0, 1) := by decide +kernel
theorem dX1_walk_48 : decode cX1_walk 48 = .ok (.getfield 40, 3) := by decide +kernel
theorem dX1_walk_51 : decode cX1_walk 51 = .ok (.aload_n 0, 1) := by decide +kernel
theorem dX1_walk_52 : decode cX1_walk 52 = .ok (.getfield 40, 3) := by decide +kernel
theorem dX1_walk_55 : decode cX1_walk 55 = .ok (.bipush 20, 2) := by decide +kernel
theorem dX1_walk_57 : decode cX1_walk 57 = .ok (.idiv, 1) := by decide +kernel
theorem dX1_walk_58 : decode cX1_walk 58 = .ok (.iconst 1, 1) := by decide +kernel
theorem dX1_walk_59 : decode cX1_walk 59 = .ok (.iadd, 1) := by decide +kernel
theorem dX1_walk_60 : decode cX1_walk 60 = .ok (.invokestatic 66, 3) := by decide +kernel
theorem dX1_walk_63 : decode cX1_walk 63 = .ok (.istore_n 2, 1) := by decide +kernel
theorem dX1_walk_64 : decode cX1_walk 64 = .ok (.aload_n 0, 1) := by decide +kernel
theorem dX1_walk_65 : decode cX1_walk 65 = .ok (.dup, 1) := by decide +kernel
theorem dX1_walk_66 : decode cX1_walk 66 = .ok (.getfield 40, 3) := by decide +kernel
theorem dX1_walk_69 : decode cX1_walk 69 = .ok (.iload_n 2, 1) := by decide +kernel
theorem dX1_walk_70 : decode cX1_walk 70 = .ok (.isub, 1) := by decide +kernel
theorem dX1_walk_71 : decode cX1_walk 71 = .ok (.putfield 40, 3) := by decide +kernel
theorem dX1_walk_74 : decode cX1_walk 74 = .ok (.aload_n 0, 1) := by decide +kernel
theorem dX1_walk_75 : decode cX1_walk 75 = .ok (.dup, 1) := by decide +kernel
theorem dX1_walk_76 : decode cX1_walk 76 = .ok (.getfield 28, 3) := by decide +kernel
theorem dX1_walk_79 : decode cX1_walk 79 = .ok (.iload_n 2, 1) := by decide +kernel
theorem dX1_walk_80 : decode cX1_walk 80 = .ok (.iadd, 1) := by decide +kernel
theorem dX1_walk_81 : decode cX1_walk 81 = .ok (.putfield 28, 3) := by decide +kernel
theorem dX1_walk_84 : decode cX1_walk 84 = .ok (.iload_n 2, 1) := by decide +kernel
theorem dX1_walk_85 : decode cX1_walk 85 = .ok (.ireturn, 1) := by decide +kernel
theorem dX1_eat_0 : decode cX1_eat 0 = .ok (.aload_n 0, 1) := by decide +kernel
theorem dX1_eat_1 : decode cX1_eat 1 = .ok (.dup, 1) := by decide +kernel
theorem dX1_eat_2 : decode cX1_eat 2 = .ok (.getfield 37, 3) := by decide +kernel
theorem dX1_eat_5 : decode cX1_eat 5 = .ok (.iload_n 1, 1) := by decide +kernel
theorem dX1_eat_6 : decode cX1_eat 6 = .ok (.iadd, 1) := by decide +kernel
theorem dX1_eat_7 : decode cX1_eat 7 = .ok (.putfield 37, 3) := by decide +kernel
theorem dX1_eat_10 : decode cX1_eat 10 = .ok (.iload_n 1, 1) := by decide +kernel
theorem dX1_eat_11 : decode cX1_eat 11 = .ok (.aload_n 0, 1) := by decide +kernel
theorem dX1_eat_12 : decode cX1_eat 12 = .ok (.invokevirtual 70, 3) := by decide +kernel
theorem dX1_eat_15 : decode cX1_eat 15 = .ok (.if_icmp .lt 30, 3) := by decide +kernel
theorem dX1_eat_18 : decode cX1_eat 18 = .ok (.aload_n 0, 1) := by decide +kernel
theorem dX1_eat_19 : decode cX1_eat 19 = .ok (.sipush 700, 3) := by decide +kernel
theorem dX1_eat_22 : decode cX1_eat 22 = .ok (.aload_n 0, 1) := by decide +kernel
theorem dX1_eat_23 : decode cX1_eat 23 = .ok (.getfield 43, 3) := by decide +kernel
theorem dX1_eat_26 : decode cX1_eat 26 = .ok (.iload_n 2, 1) := by decide +kernel
theorem dX1_eat_27 : decode cX1_eat 27 = .ok (.ifCond .eq 7, 3) := by decide +kernel
theorem dX1_eat_30 : decode cX1_eat 30 = .ok (.iconst 1, 1) := by decide +kernel
theorem dX1_eat_31 : decode cX1_eat 31 = .ok (.goto 4, 3) := by decide +kernel
theorem dX1_eat_34 : decode cX1_eat 34 = .ok (.iconst 3, 1) := by decide +kernel
theorem dX1_eat_35 : decode cX1_eat 35 = .ok (.iadd, 1) := by decide +kernel
theorem dX1_eat_36 : decode cX1_eat 36 = .ok (.invokestatic 66, 3) := by decide +kernel
theorem dX1_eat_39 : decode cX1_eat 39 = .ok (.putfield 43, 3) := by decide +kernel
theorem dX1_eat_42 : decode cX1_eat 42 = .ok (.goto 17, 3) := by decide +kernel
theorem dX1_eat_45 : decode cX1_eat 45 = .ok (.aload_n 0, 1) := by decide +kernel
theorem dX1_eat_46 : decode cX1_eat 46 = .ok (.iconst 0, 1) := by decide +kernel
theorem dX1_eat_47 : decode cX1_eat 47 = .ok (.aload_n 0, 1) := by decide +kernel
theorem dX1_eat_48 : decode cX1_eat 48 = .ok (.getfield 43, 3) := by decide +kernel
theorem dX1_eat_51 : decode cX1_eat 51 = .ok (.iconst 4, 1) := by decide +kernel
theorem dX1_eat_52 : decode cX1_eat 52 = .ok (.isub, 1) := by decide +kernel
theorem dX1_eat_53 : decode cX1_eat 53 = .ok (.invokestatic 60, 3) := by decide +kernel
theorem dX1_eat_56 : decode cX1_eat 56 = .ok (.putfield 43, 3) := by decide +kernel
theorem dX1_eat_59 : decode cX1_eat 59 = .ok (.aload_n 0, 1) := by decide +kernel
theorem dX1_eat_60 : decode cX1_eat 60 = .ok (.getfield 43, 3) := by decide +kernel
theorem dX1_eat_63 : decode cX1_eat 63 = .ok (.bipush 80, 2) := by decide +kernel
theorem dX1_eat_65 : decode cX1_eat 65 = .ok (.if_icmp .ge 40, 3) := by decide +kernel
theorem dX1_eat_68 : decode cX1_eat 68 = .ok (.aload_n 0, 1) := by decide +kernel
theorem dX1_eat_69 : decode cX1_eat 69 = .ok (.getfield 40, 3) := by decide +kernel
theorem dX1_eat_72 : decode cX1_eat 72 = .ok (.aload_n 0, 1) := by decide +kernel
theorem dX1_eat_73 : decode cX1_eat 73 = .ok (.getfield 40, 3) := by decide +kernel
theorem dX1_eat_76 : decode cX1_eat 76 = .ok (.bipush 10, 2) := by decide +kernel
theorem dX1_eat_78 : decode cX1_eat 78 = .ok (.idiv, 1) := by decide +kernel
theorem dX1_eat_79 : decode cX1_eat 79 = .ok (.iconst 1, 1) := by decide +kernel
theorem dX1_eat_80 : decode cX1_eat 80 = .ok (.iadd, 1) := by decide +kernel
theorem dX1_eat_81 : decode cX1_eat 81 = .ok (.invokestatic 66, 3) := by decide +kernel
theorem dX1_eat_84 : decode cX1_eat 84 = .ok (.istore_n 3, 1) := by decide +kernel
theorem dX1_eat_85 : decode cX1_eat 85 = .ok (.aload_n 0, 1) := by decide +kernel
theorem dX1_eat_86 : decode cX1_eat 86 = .ok (.dup, 1) := by decide +kernel
theorem dX1_eat_87 : decode cX1_eat 87 = .ok (.getfield 40, 3) := by decide +kernel
theorem dX1_eat_90 : decode cX1_eat 90 = .ok (.iload_n 3, 1) := by decide +kernel
theorem dX1_eat_91 : decode cX1_eat 91 = .ok (.isub, 1) := by decide +kernel
theorem dX1_eat_92 : decode cX1_eat 92 = .ok (.putfield 40, 3) := by decide +kernel
theorem dX1_eat_95 : decode cX1_eat 95 = .ok (.aload_n 0, 1) := by decide +kernel
theorem dX1_eat_96 : decode cX1_eat 96 = .ok (.dup, 1) := by decide +kernel
theorem dX1_eat_97 : decode cX1_eat 97 = .ok (.getfield 34, 3) := by decide +kernel
theorem dX1_eat_100 : decode cX1_eat 100 = .ok (.iload_n 3, 1) := by decide +kernel
theorem dX1_eat_101 : decode cX1_eat 101 = .ok (.iadd, 1) := by decide +kernel
theorem dX1_eat_102 : decode cX1_eat 102 = .ok (.putfield 34, 3) := by decide +kernel
theorem dX1_eat_105 : decode cX1_eat 105 = .ok (.return_, 1) := by decide +kernel
theorem dX1_tell_0 : decode cX1_tell 0 = .ok (.iload_n 1, 1) := by decide +kernel
theorem dX1_tell_1 : decode cX1_tell 1 = .ok (.tableswitch 108 0 9 #[55, 60, 65, 70, 75, 80, 85, 90, 95, 103], 55) := by decide +kernel
theorem dX1_tell_56 : decode cX1_tell 56 = .ok (.aload_n 0, 1) := by decide +kernel
theorem dX1_tell_57 : decode cX1_tell 57 = .ok (.getfield 40, 3) := by decide +kernel
theorem dX1_tell_60 : decode cX1_tell 60 = .ok (.ireturn, 1) := by decide +kernel
theorem dX1_tell_61 : decode cX1_tell 61 = .ok (.aload_n 0, 1) := by decide +kernel
theorem dX1_tell_62 : decode cX1_tell 62 = .ok (.getfield 43, 3) := by decide +kernel
theorem dX1_tell_65 : decode cX1_tell 65 = .ok (.ireturn, 1) := by decide +kernel
theorem dX1_tell_66 : decode cX1_tell 66 = .ok (.aload_n 0, 1) := by decide +kernel
theorem dX1_tell_67 : decode cX1_tell 67 = .ok (.getfield 9, 3) := by decide +kernel
theorem dX1_tell_70 : decode cX1_tell 70 = .ok (.ireturn, 1) := by decide +kernel
theorem dX1_tell_71 : decode cX1_tell 71 = .ok (.aload_n 0, 1) := by decide +kernel
theorem dX1_tell_72 : decode cX1_tell 72 = .ok (.getfield 15, 3) := by decide +kernel
theorem dX1_tell_75 : decode cX1_tell 75 = .ok (.ireturn, 1) := by decide +kernel
theorem dX1_tell_76 : decode cX1_tell 76 = .ok (.aload_n 0, 1) := by decide +kernel
theorem dX1_tell_77 : decode cX1_tell 77 = .ok (.getfield 25, 3) := by decide +kernel
theorem dX1_tell_80 : decode cX1_tell 80 = .ok (.ireturn, 1) := by decide +kernel
theorem dX1_tell_81 : decode cX1_tell 81 = .ok (.aload_n 0, 1) := by decide +kernel
theorem dX1_tell_82 : decode cX1_tell 82 = .ok (.getfield 28, 3) := by decide +kernel
theorem dX1_tell_85 : decode cX1_tell 85 = .ok (.ireturn, 1) := by decide +kernel
theorem dX1_tell_86 : decode cX1_tell 86 = .ok (.aload_n 0, 1) := by decide +kernel
theorem dX1_tell_87 : decode cX1_tell 87 = .ok (.getfield 31, 3) := by decide +kernel
theorem dX1_tell_90 : decode cX1_tell 90 = .ok (.ireturn, 1) := by decide +kernel
theorem dX1_tell_91 : decode cX1_tell 91 = .ok (.aload_n 0, 1) := by decide +kernel
theorem dX1_tell_92 : decode cX1_tell 92 = .ok (.getfield 34, 3) := by decide +kernel
theorem dX1_tell_95 : decode cX1_tell 95 = .ok (.ireturn, 1) := by decide +kernel
theorem dX1_tell_96 : decode cX1_tell 96 = .ok (.aload_n 0, 1) := by decide +kernel
theorem dX1_tell_97 : decode cX1_tell 97 = .ok (.getfield 21, 3) := by decide +kernel
theorem dX1_tell_100 : decode cX1_tell 100 = .ok (.getfield 74, 3) := by decide +kernel
theorem dX1_tell_103 : decode cX1_tell 103 = .ok (.ireturn, 1) := by decide +kernel
theorem dX1_tell_104 : decode cX1_tell 104 = .ok (.aload_n 0, 1) := by decide +kernel
theorem dX1_tell_105 : decode cX1_tell 105 = .ok (.getfield 37, 3) := by decide +kernel
theorem dX1_tell_108 : decode cX1_tell 108 = .ok (.ireturn, 1) := by decide +kernel
theorem dX1_tell_109 : decode cX1_tell 109 = .ok (.iconst (-1), 1) := by decide +kernel
theorem dX1_tell_110 : decode cX1_tell 110 = .ok (.ireturn, 1) := by decide +kernel
theorem dX2_init_0 : decode cX2_init 0 = .ok (.aload_n 0, 1) := by decide +kernel
theorem dX2_init_1 : decode cX2_init 1 = .ok (.invokespecial 3, 3) := by decide +kernel
theorem dX2_init_4 : decode cX2_init 4 = .ok (.aload_n 0, 1) := by decide +kernel
theorem dX2_init_5 : decode cX2_init 5 = .ok (.iconst 0, 1) := by decide +kernel
theorem dX2_init_6 : decode cX2_init 6 = .ok (.putfield 9, 3) := by decide +kernel
theorem dX2_init_9 : decode cX2_init 9 = .ok (.aload_n 0, 1) := by decide +kernel
theorem dX2_init_10 : decode cX2_init 10 = .ok (.bipush 30, 2) := by decide +kernel
theorem dX2_init_12 : decode cX2_init 12 = .ok (.newarray .int, 2) := by decide +kernel
theorem dX2_init_14 : decode cX2_init 14 = .ok (.putfield 15, 3) := by decide +kernel
theorem dX2_init_17 : decode cX2_init 17 = .ok (.aload_n 0, 1) := by decide +kernel
theorem dX2_init_18 : decode cX2_init 18 = .ok (.bipush 30, 2) := by decide +kernel
theorem dX2_init_20 : decode cX2_init 20 = .ok (.newarray .int, 2) := by decide +kernel
theorem dX2_init_22 : decode cX2_init 22 = .ok (.putfield 19, 3) := by decide +kernel
theorem dX2_init_25 : decode cX2_init 25 = .ok (.return_, 1) := by decide +kernel
theorem dX2_send_0 : decode cX2_send 0 = .ok (.iload_n 1, 1) := by decide +kernel
theorem dX2_send_1 : decode cX2_send 1 = .ok (.iconst 0, 1) := by decide +kernel
theorem dX2_send_2 : decode cX2_send 2 = .ok (.sipush 1000, 3) := by decide +kernel
theorem dX2_send_5 : decode cX2_send 5 = .ok (.invokestatic 22, 3) := by decide +kernel
theorem dX2_send_8 : decode cX2_send 8 = .ok (.ifCond .eq 12, 3) := by decide +kernel
theorem dX2_send_11 : decode cX2_send 11 = .ok (.aload_n 0, 1) := by decide +kernel
theorem dX2_send_12 : decode cX2_send 12 = .ok (.getfield 9, 3) := by decide +kernel
theorem dX2_send_15 : decode cX2_send 15 = .ok (.bipush 30, 2) := by decide +kernel
theorem dX2_send_17 : decode cX2_send 17 = .ok (.if_icmp .lt 5, 3) := by decide +kernel
theorem dX2_send_20 : decode cX2_send 20 = .ok (.iconst (-1), 1) := by decide +kernel
theorem dX2_send_21 : decode cX2_send 21 = .ok (.ireturn, 1) := by decide +kernel
theorem dX2_send_22 : decode cX2_send 22 = .ok (.aload_n 0, 1) := by decide +kernel
theorem dX2_send_23 : decode cX2_send 23 = .ok (.getfield 15, 3) := by decide +kernel
theorem dX2_send_26 : decode cX2_send 26 = .ok (.aload_n 0, 1) := by decide +kernel
theorem dX2_send_27 : decode cX2_send 27 = .ok (.getfield 9, 3) := by decide +kernel
theorem dX2_send_30 : decode cX2_send 30 = .ok (.iload_n 1, 1) := by decide +kernel
theorem dX2_send_31 : decode cX2_send 31 = .ok (.iastore, 1) := by decide +kernel
theorem dX2_send_32 : decode cX2_send 32 = .ok (.aload_n 0, 1) := by decide +kernel
theorem dX2_send_33 : decode cX2_send 33 = .ok (.getfield 19, 3) := by decide +kernel
theorem dX2_send_36 : decode cX2_send 36 = .ok (.aload_n 0, 1) := by decide +kernel
theorem dX2_send_37 : decode cX2_send 37 = .ok (.getfield 9, 3) := by decide +kernel
theorem dX2_send_40 : decode cX2_send 40 = .ok (.iload_n 2, 1) := by decide +kernel
theorem dX2_send_41 : decode cX2_send 41 = .ok (.iastore, 1) := by decide +kernel
theorem dX2_send_42 : decode cX2_send 42 = .ok (.aload_n 0, 1) := by decide +kernel
theorem dX2_send_43 : decode cX2_send 43 = .ok (.dup, 1) := by decide +kernel
theorem dX2_send_44 : decode cX2_send 44 = .ok (.getfield 9, 3) := by decide +kernel
theorem dX2_send_47 : decode cX2_send 47 = .ok (.iconst 1, 1) := by decide +kernel
theorem dX2_send_48 : decode cX2_send 48 = .ok (.iadd, 1) := by decide +kernel
theorem dX2_send_49 : decode cX2_send 49 = .ok (.putfield 9, 3) := by decide +kernel
theorem dX2_send_52 : decode cX2_send 52 = .ok (.aload_n 0, 1) := by decide +kernel
theorem dX2_send_53 : decode cX2_send 53 = .ok (.getfield 9, 3) := by decide +kernel
theorem dX2_send_56 : decode cX2_send 56 = .ok (.ireturn, 1) := by decide +kernel
theorem dX2_priceKnown_0 : decode cX2_priceKnown 0 = .ok (.iload_n 1, 1) := by decide +kernel
theorem dX2_priceKnown_1 : decode cX2_priceKnown 1 = .ok (.bipush 40, 2) := by decide +kernel
theorem dX2_priceKnown_3 : decode cX2_priceKnown 3 = .ok (.iadd, 1) := by decide +kernel
theorem dX2_priceKnown_4 : decode cX2_priceKnown 4 = .ok (.iconst 1, 1) := by decide +kernel
theorem dX2_priceKnown_5 : decode cX2_priceKnown 5 = .ok (.isub, 1) := by decide +kernel
theorem dX2_priceKnown_6 : decode cX2_priceKnown 6 = .ok (.bipush 40, 2) := by decide +kernel
theorem dX2_priceKnown_8 : decode cX2_priceKnown 8 = .ok (.idiv, 1) := by decide +kernel
theorem dX2_priceKnown_9 : decode cX2_priceKnown 9 = .ok (.istore_n 3, 1) := by decide +kernel
theorem dX2_priceKnown_10 : decode cX2_priceKnown 10 = .ok (.aload_n 0, 1) := by decide +kernel
theorem dX2_priceKnown_11 : decode cX2_priceKnown 11 = .ok (.getfield 9, 3) := by decide +kernel
theorem dX2_priceKnown_14 : decode cX2_priceKnown 14 = .ok (.iconst 1, 1) := by decide +kernel
theorem dX2_priceKnown_15 : decode cX2_priceKnown 15 = .ok (.isub, 1) := by decide +kernel
theorem dX2_priceKnown_16 : decode cX2_priceKnown 16 = .ok (.istore 4, 2) := by decide +kernel
theorem dX2_priceKnown_18 : decode cX2_priceKnown 18 = .ok (.iload 4, 2) := by decide +kernel
theorem dX2_priceKnown_20 : decode cX2_priceKnown 20 = .ok (.ifCond .lt 30, 3) := by decide +kernel
theorem dX2_priceKnown_23 : decode cX2_priceKnown 23 = .ok (.aload_n 0, 1) := by decide +kernel
theorem dX2_priceKnown_24 : decode cX2_priceKnown 24 = .ok (.getfield 19, 3) := by decide +kernel
theorem dX2_priceKnown_27 : decode cX2_priceKnown 27 = .ok (.iload 4, 2) := by decide +kernel
theorem dX2_priceKnown_29 : decode cX2_priceKnown 29 = .ok (.iaload, 1) := by decide +kernel
theorem dX2_priceKnown_30 : decode cX2_priceKnown 30 = .ok (.iload_n 3, 1) := by decide +kernel
theorem dX2_priceKnown_31 : decode cX2_priceKnown 31 = .ok (.iadd, 1) := by decide +kernel
theorem dX2_priceKnown_32 : decode cX2_priceKnown 32 = .ok (.iload_n 2, 1) := by decide +kernel
theorem dX2_priceKnown_33 : decode cX2_priceKnown 33 = .ok (.if_icmp .gt 11, 3) := by decide +kernel
theorem dX2_priceKnown_36 : decode cX2_priceKnown 36 = .ok (.aload_n 0, 1) := by decide +kernel
theorem dX2_priceKnown_37 : decode cX2_priceKnown 37 = .ok (.getfield 15, 3) := by decide +kernel
theorem dX2_priceKnown_40 : decode cX2_priceKnown 40 = .ok (.iload 4, 2) := by decide +kernel
theorem dX2_priceKnown_42 : decode cX2_priceKnown 42 = .ok (.iaload, 1) := by decide +kernel
theorem dX2_priceKnown_43 : decode cX2_priceKnown 43 = .ok (.ireturn, 1) := by decide +kernel
theorem dX2_priceKnown_44 : decode cX2_priceKnown 44 = .ok (.iinc 4 (-1), 3) := by decide +kernel
theorem dX2_priceKnown_47 : decode cX2_priceKnown 47 = .ok (.goto (-29), 3) := by decide +kernel
theorem dX2_priceKnown_50 : decode cX2_priceKnown 50 = .ok (.iconst 0, 1) := by decide +kernel
theorem dX2_priceKnown_51 : decode cX2_priceKnown 51 = .ok (.ireturn, 1) := by decide +kernel
theorem dX3_init_0 : decode cX3_init 0 = .ok (.aload_n 0, 1) := by decide +kernel
theorem dX3_init_1 : decode cX3_init 1 = .ok (.invokespecial 1, 3) := by decide +kernel
theorem dX3_init_4 : decode cX3_init 4 = .ok (.aload_n 0, 1) := by decide +kernel
theorem dX3_init_5 : decode cX3_init 5 = .ok (.bipush 27, 2) := by decide +kernel
theorem dX3_init_7 : decode cX3_init 7 = .ok (.putfield 9, 3) := by decide +kernel
theorem dX3_init_10 : decode cX3_init 10 = .ok (.aload_n 0, 1) := by decide +kernel
theorem dX3_init_11 : decode cX3_init 11 = .ok (.iconst 0, 1) := by decide +kernel
theorem dX3_init_12 : decode cX3_init 12 = .ok (.putfield 13, 3) := by decide +kernel
theorem dX3_init_15 : decode cX3_init 15 = .ok (.aload_n 0, 1) := by decide +kernel
theorem dX3_init_16 : decode cX3_init 16 = .ok (.iconst 0, 1) := by decide +kernel
theorem dX3_init_17 : decode cX3_init 17 = .ok (.putfield 16, 3) := by decide +kernel
theorem dX3_init_20 : decode cX3_init 20 = .ok (.aload_n 0, 1) := by decide +kernel
theorem dX3_init_21 : decode cX3_init 21 = .ok (.iconst 0, 1) := by decide +kernel
theorem dX3_init_22 : decode cX3_init 22 = .ok (.putfield 19, 3) := by decide +kernel
theorem dX3_init_25 : decode cX3_init 25 = .ok (.aload_n 0, 1) := by decide +kernel
theorem dX3_init_26 : decode cX3_init 26 = .ok (.aload_n 1, 1) := by decide +kernel
theorem dX3_init_27 : decode cX3_init 27 = .ok (.putfield 22, 3) := by decide +kernel
theorem dX3_init_30 : decode cX3_init 30 = .ok (.aload_n 0, 1) := by decide +kernel
theorem dX3_init_31 : decode cX3_init 31 = .ok (.iload_n 2, 1) := by decide +kernel
theorem dX3_init_32 : decode cX3_init 32 = .ok (.aload_n 1, 1) := by decide +kernel
theorem dX3_init_33 : decode cX3_init 33 = .ok (.arraylength, 1) := by decide +kernel
theorem dX3_init_34 : decode cX3_init 34 = .ok (.invokestatic 26, 3) := by decide +kernel
theorem dX3_init_37 : decode cX3_init 37 = .ok (.putfield 32, 3) := by decide +kernel
theorem dX3_init_40 : decode cX3_init 40 = .ok (.return_, 1) := by decide +kernel
theorem dX3_advance_0 : decode cX3_advance 0 = .ok (.aload_n 0, 1) := by decide +kernel
theorem dX3_advance_1 : decode cX3_advance 1 = .ok (.getfield 19, 3) := by decide +kernel
theorem dX3_advance_4 : decode cX3_advance 4 = .ok (.aload_n 0, 1) := by decide +kernel
theorem dX3_advance_5 : decode cX3_advance 5 = .ok (.getfield 32, 3) := by decide +kernel
theorem dX3_advance_8 : decode cX3_advance 8 = .ok (.if_icmp .ge 30, 3) := by decide +kernel
theorem dX3_advance_11 : decode cX3_advance 11 = .ok (.aload_n 0, 1) := by decide +kernel
theorem dX3_advance_12 : decode cX3_advance 12 = .ok (.aload_n 0, 1) := by decide +kernel
theorem dX3_advance_13 : decode cX3_advance 13 = .ok (.getfield 19, 3) := by decide +kernel
theorem dX3_advance_16 : decode cX3_advance 16 = .ok (.invokevirtual 35, 3) := by decide +kernel
theorem dX3_advance_19 : decode cX3_advance 19 = .ok (.invokestatic 39, 3) := by decide +kernel
theorem dX3_advance_22 : decode cX3_advance 22 = .ok (.ifCond .eq 16, 3) := by decide +kernel
theorem dX3_advance_25 : decode cX3_advance 25 = .ok (.aload_n 0, 1) := by decide +kernel
theorem dX3_advance_26 : decode cX3_advance 26 = .ok (.dup, 1) := by decide +kernel
theorem dX3_advance_27 : decode cX3_advance 27 = .ok (.getfield 19, 3) := by decide +kernel
theorem dX3_advance_30 : decode cX3_advance 30 = .ok (.iconst 1, 1) := by decide +kernel
theorem dX3_advance_31 : decode cX3_advance 31 = .ok (.iadd, 1) := by decide +kernel
theorem dX3_advance_32 : decode cX3_advance 32 = .ok (.putfield 19, 3) := by decide +kernel
theorem dX3_advance_35 : decode cX3_advance 35 = .ok (.goto (-35), 3) := by decide +kernel
theorem dX3_advance_38 : decode cX3_advance 38 = .ok (.aload_n 0, 1) := by decide +kernel
theorem dX3_advance_39 : decode cX3_advance 39 = .ok (.aload_n 0, 1) := by decide +kernel
theorem dX3_advance_40 : decode cX3_advance 40 = .ok (.getfield 19, 3) := by decide +kernel
theorem dX3_advance_43 : decode cX3_advance 43 = .ok (.putfield 13, 3) := by decide +kernel
theorem dX3_advance_46 : decode cX3_advance 46 = .ok (.aload_n 0, 1) := by decide +kernel
theorem dX3_advance_47 : decode cX3_advance 47 = .ok (.aload_n 0, 1) := by decide +kernel
theorem dX3_advance_48 : decode cX3_advance 48 = .ok (.getfield 19, 3) := by decide +kernel
theorem dX3_advance_51 : decode cX3_advance 51 = .ok (.invokevirtual 35, 3) := by decide +kernel
theorem dX3_advance_54 : decode cX3_advance 54 = .ok (.istore_n 1, 1) := by decide +kernel
theorem dX3_advance_55 : decode cX3_advance 55 = .ok (.aload_n 0, 1) := by decide +kernel
theorem dX3_advance_56 : decode cX3_advance 56 = .ok (.getfield 19, 3) := by decide +kernel
theorem dX3_advance_59 : decode cX3_advance 59 = .ok (.aload_n 0, 1) := by decide +kernel
theorem dX3_advance_60 : decode cX3_advance 60 = .ok (.getfield 32, 3) := by decide +kernel
theorem dX3_advance_63 : decode cX3_advance 63 = .ok (.if_icmp .lt 12, 3) := by decide +kernel
theorem dX3_advance_66 : decode cX3_advance 66 = .ok (.aload_n 0, 1) := by decide +kernel
theorem dX3_advance_67 : decode cX3_advance 67 = .ok (.bipush 27, 2) := by decide +kernel
theorem dX3_advance_69 : decode cX3_advance 69 = .ok (.putfield 9, 3) := by decide +kernel
theorem dX3_advance_72 : decode cX3_advance 72 = .ok (.goto 37, 3) := by decide +kernel
theorem dX3_advance_75 : decode cX3_advance 75 = .ok (.iload_n 1, 1) := by decide +kernel
theorem dX3_advance_76 : decode cX3_advance 76 = .ok (.invokestatic 43, 3) := by decide +kernel
theorem dX3_advance_79 : decode cX3_advance 79 = .ok (.ifCond .eq 10, 3) := by decide +kernel
theorem dX3_advance_82 : decode cX3_advance 82 = .ok (.aload_n 0, 1) := by decide +kernel
theorem dX3_advance_83 : decode cX3_advance 83 = .ok (.invokevirtual 46, 3) := by decide +kernel
theorem dX3_advance_86 : decode cX3_advance 86 = .ok (.goto 23, 3) := by decide +kernel
theorem dX3_advance_89 : decode cX3_advance 89 = .ok (.iload_n 1, 1) := by decide +kernel
theorem dX3_advance_90 : decode cX3_advance 90 = .ok (.invokestatic 49, 3) := by decide +kernel
theorem dX3_advance_93 : decode cX3_advance 93 = .ok (.ifCond .eq 10, 3) := by decide +kernel
theorem dX3_advance_96 : decode cX3_advance 96 = .ok (.aload_n 0, 1) := by decide +kernel
theorem dX3_advance_97 : decode cX3_advance 97 = .ok (.invokevirtual 52, 3) := by decide +kernel
theorem dX3_advance_100 : decode cX3_advance 100 = .ok (.goto 9, 3) := by decide +kernel
theorem dX3_advance_103 : decode cX3_advance 103 = .ok (.aload_n 0, 1) := by decide +kernel
theorem dX3_advance_104 : decode cX3_advance 104 = .ok (.iload_n 1, 1) := by decide +kernel
theorem dX3_advance_105 : decode cX3_advance 105 = .ok (.i2c, 1) := by decide +kernel
theorem dX3_advance_106 : decode cX3_advance 106 = .ok (.invokevirtual 55, 3) := by decide +kernel
theorem dX3_advance_109 : decode cX3_advance 109 = .ok (.return_, 1) := by decide +kernel
theorem dX3_scanWord_0 : decode cX3_scanWord 0 = .ok (.aload_n 0, 1) := by decide +kernel
theorem dX3_scanWord_1 : decode cX3_scanWord 1 = .ok (.getfield 19, 3) := by decide +kernel
theorem dX3_scanWord_4 : decode cX3_scanWord 4 = .ok (.aload_n 0, 1) := by decide +kernel
theorem dX3_scanWord_5 : decode cX3_scanWord 5 = .ok (.getfield 32, 3) := by decide +kernel
theorem dX3_scanWord_8 : decode cX3_scanWord 8 = .ok (.if_icmp .ge 30, 3) := by decide +kernel
theorem dX3_scanWord_11 : decode cX3_scanWord 11 = .ok (.aload_n 0, 1) := by decide +kernel
theorem dX3_scanWord_12 : decode cX3_scanWord 12 = .ok (.aload_n 0, 1) := by decide +kernel
theorem dX3_scanWord_13 : decode cX3_scanWord 13 = .ok (.getfield 19, 3) := by decide +kernel
theorem dX3_scanWord_16 : decode cX3_scanWord 16 = .ok (.invokevirtual 35, 3) := by decide +kernel
theorem dX3_scanWord_19 : decode cX3_scanWord 19 = .ok (.invokestatic 43, 3) := by decide +kernel
theorem dX3_scanWord_22 : decode cX3_scanWord 22 = .ok (.ifCond .eq 16, 3) := by decide +kernel
theorem dX3_scanWord_25 : decode cX3_scanWord 25 = .ok (.aload_n 0, 1) := by decide +kernel
theorem dX3_scanWord_26 : decode cX3_scanWord 26 = .ok (.dup, 1) := by decide +kernel
theorem dX3_scanWord_27 : decode cX3_scanWord 27 = .ok (.getfield 19, 3) := by decide +kernel
theorem dX3_scanWord_30 : decode cX3_scanWord 30 = .ok (.iconst 1, 1) := by decide +kernel
theorem dX3_scanWord_31 : decode cX3_scanWord 31 = .ok (.iadd, 1) := by decide +kernel
theorem dX3_scanWord_32 : decode cX3_scanWord 32 = .ok (.putfield 19, 3) := by decide +kernel
theorem dX3_scanWord_35 : decode cX3_scanWord 35 = .ok (.goto (-35), 3) := by decide +kernel
theorem dX3_scanWord_38 : decode cX3_scanWord 38 = .ok (.aload_n 0, 1) := by decide +kernel
theorem dX3_scanWord_39 : decode cX3_scanWord 39 = .ok (.aload_n 0, 1) := by decide +kernel
theorem dX3_scanWord_40 : decode cX3_scanWord 40 = .ok (.getfield 19, 3) := by decide +kernel
theorem dX3_scanWord_43 : decode cX3_scanWord 43 = .ok (.aload_n 0, 1) := by decide +kernel
theorem dX3_scanWord_44 : decode cX3_scanWord 44 = .ok (.getfield 13, 3) := by decide +kernel
theorem dX3_scanWord_47 : decode cX3_scanWord 47 = .ok (.isub, 1) := by decide +kernel
theorem dX3_scanWord_48 : decode cX3_scanWord 48 = .ok (.bipush 8, 2) := by decide +kernel
theorem dX3_scanWord_50 : decode cX3_scanWord 50 = .ok (.if_icmp .le 8, 3) := by decide +kernel
theorem dX3_scanWord_53 : decode cX3_scanWord 53 = .ok (.bipush 28, 2) := by decide +kernel
theorem dX3_scanWord_55 : decode cX3_scanWord 55 = .ok (.goto 7, 3) := by decide +kernel
theorem dX3_scanWord_58 : decode cX3_scanWord 58 = .ok (.aload_n 0, 1) := by decide +kernel
theorem dX3_scanWord_59 : decode cX3_scanWord 59 = .ok (.invokevirtual 59, 3) := by decide +kernel
theorem dX3_scanWord_62 : decode cX3_scanWord 62 = .ok (.putfield 9, 3) := by decide +kernel
theorem dX3_scanWord_65 : decode cX3_scanWord 65 = .ok (.return_, 1) := by decide +kernel
theorem dX3_scanNumber_0 : decode cX3_scanNumber 0 = .ok (.aload_n 0, 1) := by decide +kernel
theorem dX3_scanNumber_1 : decode cX3_scanNumber 1 = .ok (.iconst 0, 1) := by decide +kernel
theorem dX3_scanNumber_2 : decode cX3_scanNumber 2 = .ok (.putfield 16, 3) := by decide +kernel
theorem dX3_scanNumber_5 : decode cX3_scanNumber 5 = .ok (.aload_n 0, 1) := by decide +kernel
theorem dX3_scanNumber_6 : decode cX3_scanNumber 6 = .ok (.getfield 19, 3) := by decide +kernel
theorem dX3_scanNumber_9 : decode cX3_scanNumber 9 = .ok (.aload_n 0, 1) := by decide +kernel
theorem dX3_scanNumber_10 : decode cX3_scanNumber 10 = .ok (.getfield 32, 3) := by decide +kernel
theorem dX3_scanNumber_13 : decode cX3_scanNumber 13 = .ok (.if_icmp .ge 53, 3) := by decide +kernel
theorem dX3_scanNumber_16 : decode cX3_scanNumber 16 = .ok (.aload_n 0, 1) := by decide +kernel
theorem dX3_scanNumber_17 : decode cX3_scanNumber 17 = .ok (.aload_n 0, 1) := by decide +kernel
theorem dX3_scanNumber_18 : decode cX3_scanNumber 18 = .ok (.getfield 19, 3) := by decide +kernel
theorem dX3_scanNumber_21 : decode cX3_scanNumber 21 = .ok (.invokevirtual 35, 3) := by decide +kernel
theorem dX3_scanNumber_24 : decode cX3_scanNumber 24 = .ok (.invokestatic 49, 3) := by decide +kernel
theorem dX3_scanNumber_27 : decode cX3_scanNumber 27 = .ok (.ifCond .eq 39, 3) := by decide +kernel
theorem dX3_scanNumber_30 : decode cX3_scanNumber 30 = .ok (.aload_n 0, 1) := by decide +kernel
theorem dX3_scanNumber_31 : decode cX3_scanNumber 31 = .ok (.aload_n 0, 1) := by decide +kernel
theorem dX3_scanNumber_32 : decode cX3_scanNumber 32 = .ok (.getfield 16, 3) := by decide +kernel
theorem dX3_scanNumber_35 : decode cX3_scanNumber 35 = .ok (.bipush 10, 2) := by decide +kernel
theorem dX3_scanNumber_37 : decode cX3_scanNumber 37 = .ok (.imul, 1) := by decide +kernel
theorem dX3_scanNumber_38 : decode cX3_scanNumber 38 = .ok (.aload_n 0, 1) := by decide +kernel
theorem dX3_scanNumber_39 : decode cX3_scanNumber 39 = .ok (.aload_n 0, 1) := by decide +kernel
theorem dX3_scanNumber_40 : decode cX3_scanNumber 40 = .ok (.getfield 19, 3) := by decide +kernel
theorem dX3_scanNumber_43 : decode cX3_scanNumber 43 = .ok (.invokevirtual 35, 3) := by decide +kernel
theorem dX3_scanNumber_46 : decode cX3_scanNumber 46 = .ok (.bipush 48, 2) := by decide +kernel
theorem dX3_scanNumber_48 : decode cX3_scanNumber 48 = .ok (.isub, 1) := by decide +kernel
theorem dX3_scanNumber_49 : decode cX3_scanNumber 49 = .ok (.iadd, 1) := by decide +kernel
theorem dX3_scanNumber_50 : decode cX3_scanNumber 50 = .ok (.putfield 16, 3) := by decide +kernel
theorem dX3_scanNumber_53 : decode cX3_scanNumber 53 = .ok (.aload_n 0, 1) := by decide +kernel
theorem dX3_scanNumber_54 : decode cX3_scanNumber 54 = .ok (.dup, 1) := by decide +kernel
theorem dX3_scanNumber_55 : decode cX3_scanNumber 55 = .ok (.getfield 19, 3) := by decide +kernel
theorem dX3_scanNumber_58 : decode cX3_scanNumber 58 = .ok (.iconst 1, 1) := by decide +kernel
theorem dX3_scanNumber_59 : decode cX3_scanNumber 59 = .ok (.iadd, 1) := by decide +kernel
theorem dX3_scanNumber_60 : decode cX3_scanNumber 60 = .ok (.putfield 19, 3) := by decide +kernel
theorem dX3_scanNumber_63 : decode cX3_scanNumber 63 = .ok (.goto (-58), 3) := by decide +kernel
theorem dX3_scanNumber_66 : decode cX3_scanNumber 66 = .ok (.aload_n 0, 1) := by decide +kernel
theorem dX3_scanNumber_67 : decode cX3_scanNumber 67 = .ok (.getfield 19, 3) := by decide +kernel
theorem dX3_scanNumber_70 : decode cX3_scanNumber 70 = .ok (.aload_n 0, 1) := by decide +kernel
theorem dX3_scanNumber_71 : decode cX3_scanNumber 71 = .ok (.getfield 13, 3) := by decide +kernel
theorem dX3_scanNumber_74 : decode cX3_scanNumber 74 = .ok (.isub, 1) := by decide +kernel
theorem dX3_scanNumber_75 : decode cX3_scanNumber 75 = .ok (.bipush 6, 2) := by decide +kernel
theorem dX3_scanNumber_77 : decode cX3_scanNumber 77 = .ok (.if_icmp .gt 21, 3) := by decide +kernel
theorem dX3_scanNumber_80 : decode cX3_scanNumber 80 = .ok (.aload_n 0, 1) := by decide +kernel
theorem dX3_scanNumber_81 : decode cX3_scanNumber 81 = .ok (.aload_n 0, 1) := by decide +kernel
theorem dX3_scanNumber_82 : decode cX3_scanNumber 82 = .ok (.getfield 19, 3) := by decide +kernel
theorem dX3_scanNumber_85 : decode cX3_scanNumber 85 = .ok (.invokevirtual 35, 3) := by decide +kernel
theorem dX3_scanNumber_88 : decode cX3_scanNumber 88 = .ok (.invokestatic 43, 3) := by decide +kernel
theorem dX3_scanNumber_91 : decode cX3_scanNumber 91 = .ok (.ifCond .ne 7, 3) := by decide +kernel
theorem dX3_scanNumber_94 : decode cX3_scanNumber 94 = .ok (.iconst 1, 1) := by decide +kernel
theorem dX3_scanNumber_95 : decode cX3_scanNumber 95 = .ok (.goto 4, 3) := by decide +kernel
theorem dX3_scanNumber_98 : decode cX3_scanNumber 98 = .ok (.iconst 0, 1) := by decide +kernel
theorem dX3_scanNumber_99 : decode cX3_scanNumber 99 = .ok (.istore_n 1, 1) := by decide +kernel
theorem dX3_scanNumber_100 : decode cX3_scanNumber 100 = .ok (.aload_n 0, 1) := by decide +kernel
theorem dX3_scanNumber_101 : decode cX3_scanNumber 101 = .ok (.iload_n 1, 1) := by decide +kernel
theorem dX3_scanNumber_102 : decode cX3_scanNumber 102 = .ok (.ifCond .eq 8, 3) := by decide +kernel
theorem dX3_scanNumber_105 : decode cX3_scanNumber 105 = .ok (.bipush 25, 2) := by decide +kernel
theorem dX3_scanNumber_107 : decode cX3_scanNumber 107 = .ok (.goto 5, 3) := by decide +kernel
theorem dX3_scanNumber_110 : decode cX3_scanNumber 110 = .ok (.bipush 28, 2) := by decide +kernel
theorem dX3_scanNumber_112 : decode cX3_scanNumber 112 = .ok (.putfield 9, 3) := by decide +kernel
theorem dX3_scanNumber_115 : decode cX3_scanNumber 115 = .ok (.return_, 1) := by decide +kernel
theorem dX3_scanSign_0 : decode cX3_scanSign 0 = .ok (.ldc 63, 2) := by decide +kernel
theorem dX3_scanSign_2 : decode cX3_scanSign 2 = .ok (.iload_n 1, 1) := by decide +kernel
theorem dX3_scanSign_3 : decode cX3_scanSign 3 = .ok (.invokevirtual 65, 3) := by decide +kernel
theorem dX3_scanSign_6 : decode cX3_scanSign 6 = .ok (.istore_n 2, 1) := by decide +kernel
theorem dX3_scanSign_7 : decode cX3_scanSign 7 = .ok (.aload_n 0, 1) := by decide +kernel
theorem dX3_scanSign_8 : decode cX3_scanSign 8 = .ok (.iload_n 2, 1) := by decide +kernel
