theorem dX0_init_0 : decode cX0_init 0 = .ok (.aload_n 0, 1) := by decide +kernel
theorem dX0_init_1 : decode cX0_init 1 = .ok (.invokespecial 3, 3) := by decide +kernel
theorem dX0_init_4 : decode cX0_init 4 = .ok (.aload_n 0, 1) := by decide +kernel
theorem dX0_init_5 : decode cX0_init 5 = .ok (.iconst 0, 1) := by decide +kernel
theorem dX0_init_6 : decode cX0_init 6 = .ok (.putfield 9, 3) := by decide +kernel
theorem dX0_init_9 : decode cX0_init 9 = .ok (.aload_n 0, 1) := by decide +kernel
theorem dX0_init_10 : decode cX0_init 10 = .ok (.new 15, 3) := by decide +kernel
theorem dX0_init_13 : decode cX0_init 13 = .ok (.dup, 1) := by decide +kernel
theorem dX0_init_14 : decode cX0_init 14 = .ok (.invokespecial 17, 3) := by decide +kernel
theorem dX0_init_17 : decode cX0_init 17 = .ok (.putfield 18, 3) := by decide +kernel
theorem dX0_init_20 : decode cX0_init 20 = .ok (.aload_n 0, 1) := by decide +kernel
theorem dX0_init_21 : decode cX0_init 21 = .ok (.bipush 20, 2) := by decide +kernel
theorem dX0_init_23 : decode cX0_init 23 = .ok (.newarray .int, 2) := by decide +kernel
theorem dX0_init_25 : decode cX0_init 25 = .ok (.putfield 22, 3) := by decide +kernel
theorem dX0_init_28 : decode cX0_init 28 = .ok (.aload_n 0, 1) := by decide +kernel
theorem dX0_init_29 : decode cX0_init 29 = .ok (.bipush 20, 2) := by decide +kernel
theorem dX0_init_31 : decode cX0_init 31 = .ok (.newarray .int, 2) := by decide +kernel
theorem dX0_init_33 : decode cX0_init 33 = .ok (.putfield 26, 3) := by decide +kernel
theorem dX0_init_36 : decode cX0_init 36 = .ok (.aload_n 0, 1) := by decide +kernel
theorem dX0_init_37 : decode cX0_init 37 = .ok (.bipush 20, 2) := by decide +kernel
theorem dX0_init_39 : decode cX0_init 39 = .ok (.newarray .int, 2) := by decide +kernel
theorem dX0_init_41 : decode cX0_init 41 = .ok (.putfield 29, 3) := by decide +kernel
theorem dX0_init_44 : decode cX0_init 44 = .ok (.aload_n 0, 1) := by decide +kernel
theorem dX0_init_45 : decode cX0_init 45 = .ok (.bipush 20, 2) := by decide +kernel
theorem dX0_init_47 : decode cX0_init 47 = .ok (.newarray .int, 2) := by decide +kernel
theorem dX0_init_49 : decode cX0_init 49 = .ok (.putfield 32, 3) := by decide +kernel
theorem dX0_init_52 : decode cX0_init 52 = .ok (.aload_n 0, 1) := by decide +kernel
theorem dX0_init_53 : decode cX0_init 53 = .ok (.bipush 20, 2) := by decide +kernel
theorem dX0_init_55 : decode cX0_init 55 = .ok (.newarray .int, 2) := by decide +kernel
theorem dX0_init_57 : decode cX0_init 57 = .ok (.putfield 35, 3) := by decide +kernel
theorem dX0_init_60 : decode cX0_init 60 = .ok (.return_, 1) := by decide +kernel
theorem dX0_has_0 : decode cX0_has 0 = .ok (.iload_n 1, 1) := by decide +kernel
theorem dX0_has_1 : decode cX0_has 1 = .ok (.ifCond .lt 15, 3) := by decide +kernel
theorem dX0_has_4 : decode cX0_has 4 = .ok (.iload_n 1, 1) := by decide +kernel
theorem dX0_has_5 : decode cX0_has 5 = .ok (.aload_n 0, 1) := by decide +kernel
theorem dX0_has_6 : decode cX0_has 6 = .ok (.getfield 9, 3) := by decide +kernel
theorem dX0_has_9 : decode cX0_has 9 = .ok (.if_icmp .ge 7, 3) := by decide +kernel
theorem dX0_has_12 : decode cX0_has 12 = .ok (.iconst 1, 1) := by decide +kernel
theorem dX0_has_13 : decode cX0_has 13 = .ok (.goto 4, 3) := by decide +kernel
theorem dX0_has_16 : decode cX0_has 16 = .ok (.iconst 0, 1) := by decide +kernel
theorem dX0_has_17 : decode cX0_has 17 = .ok (.ireturn, 1) := by decide +kernel
theorem dX0_make_0 : decode cX0_make 0 = .ok (.iload_n 1, 1) := by decide +kernel
theorem dX0_make_1 : decode cX0_make 1 = .ok (.iconst 1, 1) := by decide +kernel
theorem dX0_make_2 : decode cX0_make 2 = .ok (.ldc 38, 2) := by decide +kernel
theorem dX0_make_4 : decode cX0_make 4 = .ok (.invokestatic 39, 3) := by decide +kernel
theorem dX0_make_7 : decode cX0_make 7 = .ok (.ifCond .eq 24, 3) := by decide +kernel
theorem dX0_make_10 : decode cX0_make 10 = .ok (.iload_n 2, 1) := by decide +kernel
theorem dX0_make_11 : decode cX0_make 11 = .ok (.invokestatic 43, 3) := by decide +kernel
theorem dX0_make_14 : decode cX0_make 14 = .ok (.ifCond .eq 17, 3) := by decide +kernel
theorem dX0_make_17 : decode cX0_make 17 = .ok (.iload_n 3, 1) := by decide +kernel
theorem dX0_make_18 : decode cX0_make 18 = .ok (.iconst 0, 1) := by decide +kernel
theorem dX0_make_19 : decode cX0_make 19 = .ok (.ldc 47, 2) := by decide +kernel
theorem dX0_make_21 : decode cX0_make 21 = .ok (.invokestatic 39, 3) := by decide +kernel
theorem dX0_make_24 : decode cX0_make 24 = .ok (.ifCond .eq 7, 3) := by decide +kernel
theorem dX0_make_27 : decode cX0_make 27 = .ok (.iconst 1, 1) := by decide +kernel
theorem dX0_make_28 : decode cX0_make 28 = .ok (.goto 4, 3) := by decide +kernel
theorem dX0_make_31 : decode cX0_make 31 = .ok (.iconst 0, 1) := by decide +kernel
theorem dX0_make_32 : decode cX0_make 32 = .ok (.istore 4, 2) := by decide +kernel
theorem dX0_make_34 : decode cX0_make 34 = .ok (.iload 4, 2) := by decide +kernel
theorem dX0_make_36 : decode cX0_make 36 = .ok (.ifCond .eq 12, 3) := by decide +kernel
theorem dX0_make_39 : decode cX0_make 39 = .ok (.aload_n 0, 1) := by decide +kernel
theorem dX0_make_40 : decode cX0_make 40 = .ok (.getfield 9, 3) := by decide +kernel
theorem dX0_make_43 : decode cX0_make 43 = .ok (.bipush 20, 2) := by decide +kernel
theorem dX0_make_45 : decode cX0_make 45 = .ok (.if_icmp .lt 5, 3) := by decide +kernel
theorem dX0_make_48 : decode cX0_make 48 = .ok (.iconst (-1), 1) := by decide +kernel
theorem dX0_make_49 : decode cX0_make 49 = .ok (.ireturn, 1) := by decide +kernel
theorem dX0_make_50 : decode cX0_make 50 = .ok (.aload_n 0, 1) := by decide +kernel
theorem dX0_make_51 : decode cX0_make 51 = .ok (.getfield 22, 3) := by decide +kernel
theorem dX0_make_54 : decode cX0_make 54 = .ok (.aload_n 0, 1) := by decide +kernel
theorem dX0_make_55 : decode cX0_make 55 = .ok (.getfield 9, 3) := by decide +kernel
theorem dX0_make_58 : decode cX0_make 58 = .ok (.iload_n 1, 1) := by decide +kernel
theorem dX0_make_59 : decode cX0_make 59 = .ok (.iastore, 1) := by decide +kernel
theorem dX0_make_60 : decode cX0_make 60 = .ok (.aload_n 0, 1) := by decide +kernel
theorem dX0_make_61 : decode cX0_make 61 = .ok (.getfield 26, 3) := by decide +kernel
theorem dX0_make_64 : decode cX0_make 64 = .ok (.aload_n 0, 1) := by decide +kernel
theorem dX0_make_65 : decode cX0_make 65 = .ok (.getfield 9, 3) := by decide +kernel
theorem dX0_make_68 : decode cX0_make 68 = .ok (.iload_n 2, 1) := by decide +kernel
theorem dX0_make_69 : decode cX0_make 69 = .ok (.iastore, 1) := by decide +kernel
theorem dX0_make_70 : decode cX0_make 70 = .ok (.aload_n 0, 1) := by decide +kernel
theorem dX0_make_71 : decode cX0_make 71 = .ok (.getfield 29, 3) := by decide +kernel
theorem dX0_make_74 : decode cX0_make 74 = .ok (.aload_n 0, 1) := by decide +kernel
theorem dX0_make_75 : decode cX0_make 75 = .ok (.getfield 9, 3) := by decide +kernel
theorem dX0_make_78 : decode cX0_make 78 = .ok (.iload_n 3, 1) := by decide +kernel
theorem dX0_make_79 : decode cX0_make 79 = .ok (.iastore, 1) := by decide +kernel
theorem dX0_make_80 : decode cX0_make 80 = .ok (.aload_n 0, 1) := by decide +kernel
theorem dX0_make_81 : decode cX0_make 81 = .ok (.getfield 32, 3) := by decide +kernel
theorem dX0_make_84 : decode cX0_make 84 = .ok (.aload_n 0, 1) := by decide +kernel
theorem dX0_make_85 : decode cX0_make 85 = .ok (.getfield 9, 3) := by decide +kernel
theorem dX0_make_88 : decode cX0_make 88 = .ok (.iconst (-1), 1) := by decide +kernel
theorem dX0_make_89 : decode cX0_make 89 = .ok (.iastore, 1) := by decide +kernel
theorem dX0_make_90 : decode cX0_make 90 = .ok (.aload_n 0, 1) := by decide +kernel
theorem dX0_make_91 : decode cX0_make 91 = .ok (.getfield 35, 3) := by decide +kernel
theorem dX0_make_94 : decode cX0_make 94 = .ok (.aload_n 0, 1) := by decide +kernel
theorem dX0_make_95 : decode cX0_make 95 = .ok (.getfield 9, 3) := by decide +kernel
theorem dX0_make_98 : decode cX0_make 98 = .ok (.iconst (-1), 1) := by decide +kernel
theorem dX0_make_99 : decode cX0_make 99 = .ok (.iastore, 1) := by decide +kernel
theorem dX0_make_100 : decode cX0_make 100 = .ok (.aload_n 0, 1) := by decide +kernel
theorem dX0_make_101 : decode cX0_make 101 = .ok (.dup, 1) := by decide +kernel
theorem dX0_make_102 : decode cX0_make 102 = .ok (.getfield 9, 3) := by decide +kernel
theorem dX0_make_105 : decode cX0_make 105 = .ok (.iconst 1, 1) := by decide +kernel
theorem dX0_make_106 : decode cX0_make 106 = .ok (.iadd, 1) := by decide +kernel
theorem dX0_make_107 : decode cX0_make 107 = .ok (.putfield 9, 3) := by decide +kernel
theorem dX0_make_110 : decode cX0_make 110 = .ok (.aload_n 0, 1) := by decide +kernel
theorem dX0_make_111 : decode cX0_make 111 = .ok (.getfield 9, 3) := by decide +kernel
theorem dX0_make_114 : decode cX0_make 114 = .ok (.iconst 1, 1) := by decide +kernel
theorem dX0_make_115 : decode cX0_make 115 = .ok (.isub, 1) := by decide +kernel
theorem dX0_make_116 : decode cX0_make 116 = .ok (.ireturn, 1) := by decide +kernel
theorem dX0_holderKnown_0 : decode cX0_holderKnown 0 = .ok (.aload_n 0, 1) := by decide +kernel
theorem dX0_holderKnown_1 : decode cX0_holderKnown 1 = .ok (.iload_n 1, 1) := by decide +kernel
theorem dX0_holderKnown_2 : decode cX0_holderKnown 2 = .ok (.invokevirtual 48, 3) := by decide +kernel
theorem dX0_holderKnown_5 : decode cX0_holderKnown 5 = .ok (.ifCond .eq 22, 3) := by decide +kernel
theorem dX0_holderKnown_8 : decode cX0_holderKnown 8 = .ok (.aload_n 0, 1) := by decide +kernel
theorem dX0_holderKnown_9 : decode cX0_holderKnown 9 = .ok (.getfield 18, 3) := by decide +kernel
theorem dX0_holderKnown_12 : decode cX0_holderKnown 12 = .ok (.iload_n 1, 1) := by decide +kernel
theorem dX0_holderKnown_13 : decode cX0_holderKnown 13 = .ok (.aload_n 0, 1) := by decide +kernel
theorem dX0_holderKnown_14 : decode cX0_holderKnown 14 = .ok (.getfield 26, 3) := by decide +kernel
theorem dX0_holderKnown_17 : decode cX0_holderKnown 17 = .ok (.iload_n 1, 1) := by decide +kernel
theorem dX0_holderKnown_18 : decode cX0_holderKnown 18 = .ok (.iaload, 1) := by decide +kernel
theorem dX0_holderKnown_19 : decode cX0_holderKnown 19 = .ok (.iload_n 2, 1) := by decide +kernel
theorem dX0_holderKnown_20 : decode cX0_holderKnown 20 = .ok (.iload_n 3, 1) := by decide +kernel
theorem dX0_holderKnown_21 : decode cX0_holderKnown 21 = .ok (.invokevirtual 51, 3) := by decide +kernel
theorem dX0_holderKnown_24 : decode cX0_holderKnown 24 = .ok (.goto 4, 3) := by decide +kernel
theorem dX0_holderKnown_27 : decode cX0_holderKnown 27 = .ok (.iconst (-1), 1) := by decide +kernel
theorem dX0_holderKnown_28 : decode cX0_holderKnown 28 = .ok (.ireturn, 1) := by decide +kernel
theorem dX0_settle_0 : decode cX0_settle 0 = .ok (.aload_n 0, 1) := by decide +kernel
theorem dX0_settle_1 : decode cX0_settle 1 = .ok (.iload_n 1, 1) := by decide +kernel
theorem dX0_settle_2 : decode cX0_settle 2 = .ok (.invokevirtual 48, 3) := by decide +kernel
theorem dX0_settle_5 : decode cX0_settle 5 = .ok (.ifCond .eq 23, 3) := by decide +kernel
theorem dX0_settle_8 : decode cX0_settle 8 = .ok (.aload_n 0, 1) := by decide +kernel
theorem dX0_settle_9 : decode cX0_settle 9 = .ok (.getfield 29, 3) := by decide +kernel
theorem dX0_settle_12 : decode cX0_settle 12 = .ok (.iload_n 1, 1) := by decide +kernel
theorem dX0_settle_13 : decode cX0_settle 13 = .ok (.iaload, 1) := by decide +kernel
theorem dX0_settle_14 : decode cX0_settle 14 = .ok (.iload_n 2, 1) := by decide +kernel
theorem dX0_settle_15 : decode cX0_settle 15 = .ok (.if_icmp .gt 13, 3) := by decide +kernel
theorem dX0_settle_18 : decode cX0_settle 18 = .ok (.aload_n 0, 1) := by decide +kernel
theorem dX0_settle_19 : decode cX0_settle 19 = .ok (.getfield 32, 3) := by decide +kernel
theorem dX0_settle_22 : decode cX0_settle 22 = .ok (.iload_n 1, 1) := by decide +kernel
theorem dX0_settle_23 : decode cX0_settle 23 = .ok (.iaload, 1) := by decide +kernel
theorem dX0_settle_24 : decode cX0_settle 24 = .ok (.iconst (-1), 1) := by decide +kernel
theorem dX0_settle_25 : decode cX0_settle 25 = .ok (.if_icmp .eq 5, 3) := by decide +kernel
theorem dX0_settle_28 : decode cX0_settle 28 = .ok (.iconst (-1), 1) := by decide +kernel
theorem dX0_settle_29 : decode cX0_settle 29 = .ok (.ireturn, 1) := by decide +kernel
theorem dX0_settle_30 : decode cX0_settle 30 = .ok (.aload_n 0, 1) := by decide +kernel
theorem dX0_settle_31 : decode cX0_settle 31 = .ok (.getfield 32, 3) := by decide +kernel
theorem dX0_settle_34 : decode cX0_settle 34 = .ok (.iload_n 1, 1) := by decide +kernel
theorem dX0_settle_35 : decode cX0_settle 35 = .ok (.iload_n 2, 1) := by decide +kernel
theorem dX0_settle_36 : decode cX0_settle 36 = .ok (.iastore, 1) := by decide +kernel
theorem dX0_settle_37 : decode cX0_settle 37 = .ok (.aload_n 0, 1) := by decide +kernel
theorem dX0_settle_38 : decode cX0_settle 38 = .ok (.getfield 35, 3) := by decide +kernel
theorem dX0_settle_41 : decode cX0_settle 41 = .ok (.iload_n 1, 1) := by decide +kernel
theorem dX0_settle_42 : decode cX0_settle 42 = .ok (.aload_n 0, 1) := by decide +kernel
theorem dX0_settle_43 : decode cX0_settle 43 = .ok (.iload_n 1, 1) := by decide +kernel
theorem dX0_settle_44 : decode cX0_settle 44 = .ok (.iload_n 2, 1) := by decide +kernel
theorem dX0_settle_45 : decode cX0_settle 45 = .ok (.iload_n 2, 1) := by decide +kernel
theorem dX0_settle_46 : decode cX0_settle 46 = .ok (.invokevirtual 55, 3) := by decide +kernel
theorem dX0_settle_49 : decode cX0_settle 49 = .ok (.iastore, 1) := by decide +kernel
theorem dX0_settle_50 : decode cX0_settle 50 = .ok (.aload_n 0, 1) := by decide +kernel
theorem dX0_settle_51 : decode cX0_settle 51 = .ok (.getfield 35, 3) := by decide +kernel
theorem dX0_settle_54 : decode cX0_settle 54 = .ok (.iload_n 1, 1) := by decide +kernel
theorem dX0_settle_55 : decode cX0_settle 55 = .ok (.iaload, 1) := by decide +kernel
theorem dX0_settle_56 : decode cX0_settle 56 = .ok (.ireturn, 1) := by decide +kernel
theorem dX0_tell_0 : decode cX0_tell 0 = .ok (.aload_n 0, 1) := by decide +kernel
theorem dX0_tell_1 : decode cX0_tell 1 = .ok (.iload_n 1, 1) := by decide +kernel
theorem dX0_tell_2 : decode cX0_tell 2 = .ok (.invokevirtual 48, 3) := by decide +kernel
theorem dX0_tell_5 : decode cX0_tell 5 = .ok (.ifCond .ne 5, 3) := by decide +kernel
theorem dX0_tell_8 : decode cX0_tell 8 = .ok (.iconst (-1), 1) := by decide +kernel
theorem dX0_tell_9 : decode cX0_tell 9 = .ok (.ireturn, 1) := by decide +kernel
theorem dX0_tell_10 : decode cX0_tell 10 = .ok (.iload_n 2, 1) := by decide +kernel
theorem dX0_tell_11 : decode cX0_tell 11 = .ok (.tableswitch 46 0 2 #[25, 32, 39], 25) := by decide +kernel
theorem dX0_tell_36 : decode cX0_tell 36 = .ok (.aload_n 0, 1) := by decide +kernel
theorem dX0_tell_37 : decode cX0_tell 37 = .ok (.getfield 22, 3) := by decide +kernel
theorem dX0_tell_40 : decode cX0_tell 40 = .ok (.iload_n 1, 1) := by decide +kernel
theorem dX0_tell_41 : decode cX0_tell 41 = .ok (.iaload, 1) := by decide +kernel
theorem dX0_tell_42 : decode cX0_tell 42 = .ok (.ireturn, 1) := by decide +kernel
theorem dX0_tell_43 : decode cX0_tell 43 = .ok (.aload_n 0, 1) := by decide +kernel
theorem dX0_tell_44 : decode cX0_tell 44 = .ok (.getfield 32, 3) := by decide +kernel
theorem dX0_tell_47 : decode cX0_tell 47 = .ok (.iload_n 1, 1) := by decide +kernel
theorem dX0_tell_48 : decode cX0_tell 48 = .ok (.iaload, 1) := by decide +kernel
theorem dX0_tell_49 : decode cX0_tell 49 = .ok (.ireturn, 1) := by decide +kernel
theorem dX0_tell_50 : decode cX0_tell 50 = .ok (.aload_n 0, 1) := by decide +kernel
theorem dX0_tell_51 : decode cX0_tell 51 = .ok (.getfield 35, 3) := by decide +kernel
theorem dX0_tell_54 : decode cX0_tell 54 = .ok (.iload_n 1, 1) := by decide +kernel
theorem dX0_tell_55 : decode cX0_tell 55 = .ok (.iaload, 1) := by decide +kernel
theorem dX0_tell_56 : decode cX0_tell 56 = .ok (.ireturn, 1) := by decide +kernel
theorem dX0_tell_57 : decode cX0_tell 57 = .ok (.iconst (-1), 1) := by decide +kernel
theorem dX0_tell_58 : decode cX0_tell 58 = .ok (.ireturn, 1) := by decide +kernel
theorem dX1_init_0 : decode cX1_init 0 = .ok (.aload_n 0, 1) := by decide +kernel
theorem dX1_init_1 : decode cX1_init 1 = .ok (.invokespecial 3, 3) := by decide +kernel
theorem dX1_init_4 : decode cX1_init 4 = .ok (.aload_n 0, 1) := by decide +kernel
theorem dX1_init_5 : decode cX1_init 5 = .ok (.iconst 0, 1) := by decide +kernel
theorem dX1_init_6 : decode cX1_init 6 = .ok (.putfield 9, 3) := by decide +kernel
theorem dX1_init_9 : decode cX1_init 9 = .ok (.aload_n 0, 1) := by decide +kernel
theorem dX1_init_10 : decode cX1_init 10 = .ok (.iconst 0, 1) := by decide +kernel
theorem dX1_init_11 : decode cX1_init 11 = .ok (.putfield 15, 3) := by decide +kernel
theorem dX1_init_14 : decode cX1_init 14 = .ok (.aload_n 0, 1) := by decide +kernel
theorem dX1_init_15 : decode cX1_init 15 = .ok (.new 18, 3) := by decide +kernel
theorem dX1_init_18 : decode cX1_init 18 = .ok (.dup, 1) := by decide +kernel
theorem dX1_init_19 : decode cX1_init 19 = .ok (.invokespecial 20, 3) := by decide +kernel
theorem dX1_init_22 : decode cX1_init 22 = .ok (.putfield 21, 3) := by decide +kernel
theorem dX1_init_25 : decode cX1_init 25 = .ok (.aload_n 0, 1) := by decide +kernel
theorem dX1_init_26 : decode cX1_init 26 = .ok (.iconst 0, 1) := by decide +kernel
theorem dX1_init_27 : decode cX1_init 27 = .ok (.putfield 25, 3) := by decide +kernel
theorem dX1_init_30 : decode cX1_init 30 = .ok (.aload_n 0, 1) := by decide +kernel
theorem dX1_init_31 : decode cX1_init 31 = .ok (.iconst 0, 1) := by decide +kernel
theorem dX1_init_32 : decode cX1_init 32 = .ok (.putfield 28, 3) := by decide +kernel
theorem dX1_init_35 : decode cX1_init 35 = .ok (.aload_n 0, 1) := by decide +kernel
theorem dX1_init_36 : decode cX1_init 36 = .ok (.iconst 0, 1) := by decide +kernel
theorem dX1_init_37 : decode cX1_init 37 = .ok (.putfield 31, 3) := by decide +kernel
theorem dX1_init_40 : decode cX1_init 40 = .ok (.aload_n 0, 1) := by decide +kernel
theorem dX1_init_41 : decode cX1_init 41 = .ok (.iconst 0, 1) := by decide +kernel
theorem dX1_init_42 : decode cX1_init 42 = .ok (.putfield 34, 3) := by decide +kernel
theorem dX1_init_45 : decode cX1_init 45 = .ok (.aload_n 0, 1) := by decide +kernel
theorem dX1_init_46 : decode cX1_init 46 = .ok (.iconst 0, 1) := by decide +kernel
theorem dX1_init_47 : decode cX1_init 47 = .ok (.putfield 37, 3) := by decide +kernel
theorem dX1_init_50 : decode cX1_init 50 = .ok (.aload_n 0, 1) := by decide +kernel
theorem dX1_init_51 : decode cX1_init 51 = .ok (.iload_n 1, 1) := by decide +kernel
theorem dX1_init_52 : decode cX1_init 52 = .ok (.putfield 40, 3) := by decide +kernel
theorem dX1_init_55 : decode cX1_init 55 = .ok (.aload_n 0, 1) := by decide +kernel
theorem dX1_init_56 : decode cX1_init 56 = .ok (.iload_n 2, 1) := by decide +kernel
theorem dX1_init_57 : decode cX1_init 57 = .ok (.putfield 43, 3) := by decide +kernel
theorem dX1_init_60 : decode cX1_init 60 = .ok (.aload_n 0, 1) := by decide +kernel
theorem dX1_init_61 : decode cX1_init 61 = .ok (.iload_n 3, 1) := by decide +kernel
theorem dX1_init_62 : decode cX1_init 62 = .ok (.putfield 46, 3) := by decide +kernel
theorem dX1_init_65 : decode cX1_init 65 = .ok (.aload_n 0, 1) := by decide +kernel
theorem dX1_init_66 : decode cX1_init 66 = .ok (.iload 4, 2) := by decide +kernel
theorem dX1_init_68 : decode cX1_init 68 = .ok (.putfield 49, 3) := by decide +kernel
theorem dX1_init_71 : decode cX1_init 71 = .ok (.return_, 1) := by decide +kernel
theorem dX1_want_0 : decode cX1_want 0 = .ok (.aload_n 0, 1) := by decide +kernel
theorem dX1_want_1 : decode cX1_want 1 = .ok (.getfield 40, 3) := by decide +kernel
theorem dX1_want_4 : decode cX1_want 4 = .ok (.aload_n 0, 1) := by decide +kernel
theorem dX1_want_5 : decode cX1_want 5 = .ok (.getfield 46, 3) := by decide +kernel
theorem dX1_want_8 : decode cX1_want 8 = .ok (.imul, 1) := by decide +kernel
theorem dX1_want_9 : decode cX1_want 9 = .ok (.ireturn, 1) := by decide +kernel
theorem dX1_sellOnTheWay_0 : decode cX1_sellOnTheWay 0 = .ok (.aload_n 0, 1) := by decide +kernel
theorem dX1_sellOnTheWay_1 : decode cX1_sellOnTheWay 1 = .ok (.iload_n 1, 1) := by decide +kernel
theorem dX1_sellOnTheWay_2 : decode cX1_sellOnTheWay 2 = .ok (.invokevirtual 52, 3) := by decide +kernel
theorem dX1_sellOnTheWay_5 : decode cX1_sellOnTheWay 5 = .ok (.istore_n 3, 1) := by decide +kernel
theorem dX1_sellOnTheWay_6 : decode cX1_sellOnTheWay 6 = .ok (.aload_n 0, 1) := by decide +kernel
theorem dX1_sellOnTheWay_7 : decode cX1_sellOnTheWay 7 = .ok (.iload_n 3, 1) := by decide +kernel
theorem dX1_sellOnTheWay_8 : decode cX1_sellOnTheWay 8 = .ok (.aload_n 0, 1) := by decide +kernel
theorem dX1_sellOnTheWay_9 : decode cX1_sellOnTheWay 9 = .ok (.getfield 43, 3) := by decide +kernel
theorem dX1_sellOnTheWay_12 : decode cX1_sellOnTheWay 12 = .ok (.imul, 1) := by decide +kernel
theorem dX1_sellOnTheWay_13 : decode cX1_sellOnTheWay 13 = .ok (.iload_n 2, 1) := by decide +kernel
theorem dX1_sellOnTheWay_14 : decode cX1_sellOnTheWay 14 = .ok (.imul, 1) := by decide +kernel
theorem dX1_sellOnTheWay_15 : decode cX1_sellOnTheWay 15 = .ok (.sipush 200, 3) := by decide +kernel
theorem dX1_sellOnTheWay_18 : decode cX1_sellOnTheWay 18 = .ok (.idiv, 1) := by decide +kernel
theorem dX1_sellOnTheWay_19 : decode cX1_sellOnTheWay 19 = .ok (.invokevirtual 56, 3) := by decide +kernel
theorem dX1_sellOnTheWay_22 : decode cX1_sellOnTheWay 22 = .ok (.aload_n 0, 1) := by decide +kernel
theorem dX1_sellOnTheWay_23 : decode cX1_sellOnTheWay 23 = .ok (.getfield 40, 3) := by decide +kernel
theorem dX1_sellOnTheWay_26 : decode cX1_sellOnTheWay 26 = .ok (.ifCond .le 18, 3) := by decide +kernel
theorem dX1_sellOnTheWay_29 : decode cX1_sellOnTheWay 29 = .ok (.aload_n 0, 1) := by decide +kernel
theorem dX1_sellOnTheWay_30 : decode cX1_sellOnTheWay 30 = .ok (.iconst 0, 1) := by decide +kernel
theorem dX1_sellOnTheWay_31 : decode cX1_sellOnTheWay 31 = .ok (.aload_n 0, 1) := by decide +kernel
theorem dX1_sellOnTheWay_32 : decode cX1_sellOnTheWay 32 = .ok (.getfield 9, 3) := by decide +kernel
theorem dX1_sellOnTheWay_35 : decode cX1_sellOnTheWay 35 = .ok (.bipush 15, 2) := by decide +kernel
theorem dX1_sellOnTheWay_37 : decode cX1_sellOnTheWay 37 = .ok (.isub, 1) := by decide +kernel
theorem dX1_sellOnTheWay_38 : decode cX1_sellOnTheWay 38 = .ok (.invokestatic 60, 3) := by decide +kernel
theorem dX1_sellOnTheWay_41 : decode cX1_sellOnTheWay 41 = .ok (.putfield 9, 3) := by decide +kernel
theorem dX1_sellOnTheWay_44 : decode cX1_sellOnTheWay 44 = .ok (.return_, 1) := by decide +kernel
theorem dX1_sellAtFair_0 : decode cX1_sellAtFair 0 = .ok (.aload_n 0, 1) := by decide +kernel
theorem dX1_sellAtFair_1 : decode cX1_sellAtFair 1 = .ok (.aload_n 0, 1) := by decide +kernel
theorem dX1_sellAtFair_2 : decode cX1_sellAtFair 2 = .ok (.getfield 40, 3) := by decide +kernel
theorem dX1_sellAtFair_5 : decode cX1_sellAtFair 5 = .ok (.invokevirtual 52, 3) := by decide +kernel
theorem dX1_sellAtFair_8 : decode cX1_sellAtFair 8 = .ok (.istore_n 2, 1) := by decide +kernel
theorem dX1_sellAtFair_9 : decode cX1_sellAtFair 9 = .ok (.aload_n 0, 1) := by decide +kernel
theorem dX1_sellAtFair_10 : decode cX1_sellAtFair 10 = .ok (.iload_n 2, 1) := by decide +kernel
theorem dX1_sellAtFair_11 : decode cX1_sellAtFair 11 = .ok (.aload_n 0, 1) := by decide +kernel
theorem dX1_sellAtFair_12 : decode cX1_sellAtFair 12 = .ok (.getfield 43, 3) := by decide +kernel
theorem dX1_sellAtFair_15 : decode cX1_sellAtFair 15 = .ok (.imul, 1) := by decide +kernel
theorem dX1_sellAtFair_16 : decode cX1_sellAtFair 16 = .ok (.iload_n 1, 1) := by decide +kernel
theorem dX1_sellAtFair_17 : decode cX1_sellAtFair 17 = .ok (.imul, 1) := by decide +kernel
theorem dX1_sellAtFair_18 : decode cX1_sellAtFair 18 = .ok (.bipush 100, 2) := by decide +kernel
theorem dX1_sellAtFair_20 : decode cX1_sellAtFair 20 = .ok (.idiv, 1) := by decide +kernel
theorem dX1_sellAtFair_21 : decode cX1_sellAtFair 21 = .ok (.invokevirtual 56, 3) := by decide +kernel
theorem dX1_sellAtFair_24 : decode cX1_sellAtFair 24 = .ok (.return_, 1) := by decide +kernel
theorem dX1_sellHeads_0 : decode cX1_sellHeads 0 = .ok (.iload_n 1, 1) := by decide +kernel
theorem dX1_sellHeads_1 : decode cX1_sellHeads 1 = .ok (.aload_n 0, 1) := by decide +kernel
theorem dX1_sellHeads_2 : decode cX1_sellHeads 2 = .ok (.getfield 40, 3) := by decide +kernel
theorem dX1_sellHeads_5 : decode cX1_sellHeads 5 = .ok (.invokestatic 66, 3) := by decide +kernel
theorem dX1_sellHeads_8 : decode cX1_sellHeads 8 = .ok (.istore_n 2, 1) := by decide +kernel
theorem dX1_sellHeads_9 : decode cX1_sellHeads 9 = .ok (.aload_n 0, 1) := by decide +kernel
theorem dX1_sellHeads_10 : decode cX1_sellHeads 10 = .ok (.dup, 1) := by decide +kernel
theorem dX1_sellHeads_11 : decode cX1_sellHeads 11 = .ok (.getfield 40, 3) := by decide +kernel
theorem dX1_sellHeads_14 : decode cX1_sellHeads 14 = .ok (.iload_n 2, 1) := by decide +kernel
theorem dX1_sellHeads_15 : decode cX1_sellHeads 15 = .ok (.isub, 1) := by decide +kernel
theorem dX1_sellHeads_16 : decode cX1_sellHeads 16 = .ok (.putfield 40, 3) := by decide +kernel
theorem dX1_sellHeads_19 : decode cX1_sellHeads 19 = .ok (.aload_n 0, 1) := by decide +kernel
theorem dX1_sellHeads_20 : decode cX1_sellHeads 20 = .ok (.dup, 1) := by decide +kernel
theorem dX1_sellHeads_21 : decode cX1_sellHeads 21 = .ok (.getfield 31, 3) := by decide +kernel
theorem dX1_sellHeads_24 : decode cX1_sellHeads 24 = .ok (.iload_n 2, 1) := by decide +kernel
theorem dX1_sellHeads_25 : decode cX1_sellHeads 25 = .ok (.iadd, 1) := by decide +kernel
theorem dX1_sellHeads_26 : decode cX1_sellHeads 26 = .ok (.putfield 31, 3) := by decide +kernel
theorem dX1_sellHeads_29 : decode cX1_sellHeads 29 = .ok (.iload_n 2, 1) := by decide +kernel
theorem dX1_sellHeads_30 : decode cX1_sellHeads 30 = .ok (.ireturn, 1) := by decide +kernel
theorem dX1_earn_0 : decode cX1_earn 0 = .ok (.aload_n 0, 1) := by decide +kernel
theorem dX1_earn_1 : decode cX1_earn 1 = .ok (.ldc 69, 2) := by decide +kernel
theorem dX1_earn_3 : decode cX1_earn 3 = .ok (.aload_n 0, 1) := by decide +kernel
theorem dX1_earn_4 : decode cX1_earn 4 = .ok (.getfield 25, 3) := by decide +kernel
theorem dX1_earn_7 : decode cX1_earn 7 = .ok (.iload_n 1, 1) := by decide +kernel
theorem dX1_earn_8 : decode cX1_earn 8 = .ok (.iadd, 1) := by decide +kernel
theorem dX1_earn_9 : decode cX1_earn 9 = .ok (.invokestatic 66, 3) := by decide +kernel
theorem dX1_earn_12 : decode cX1_earn 12 = .ok (.putfield 25, 3) := by decide +kernel
theorem dX1_earn_15 : decode cX1_earn 15 = .ok (.return_, 1) := by decide +kernel
theorem dX1_walk_0 : decode cX1_walk 0 = .ok (.aload_n 0, 1) := by decide +kernel
theorem dX1_walk_1 : decode cX1_walk 1 = .ok (.dup, 1) := by decide +kernel
theorem dX1_walk_2 : decode cX1_walk 2 = .ok (.getfield 15, 3) := by decide +kernel
theorem dX1_walk_5 : decode cX1_walk 5 = .ok (.iconst 1, 1) := by decide +kernel
theorem dX1_walk_6 : decode cX1_walk 6 = .ok (.iadd, 1) := by decide +kernel
theorem dX1_walk_7 : decode cX1_walk 7 = .ok (.putfield 15, 3) := by decide +kernel
theorem dX1_walk_10 : decode cX1_walk 10 = .ok (.aload_n 0, 1) := by decide +kernel
theorem dX1_walk_11 : decode cX1_walk 11 = .ok (.dup, 1) := by decide +kernel
theorem dX1_walk_12 : decode cX1_walk 12 = .ok (.getfield 9, 3) := by decide +kernel
theorem dX1_walk_15 : decode cX1_walk 15 = .ok (.iload_n 1, 1) := by decide +kernel
theorem dX1_walk_16 : decode cX1_walk 16 = .ok (.iadd, 1) := by decide +kernel
theorem dX1_walk_17 : decode cX1_walk 17 = .ok (.putfield 9, 3) := by decide +kernel
theorem dX1_walk_20 : decode cX1_walk 20 = .ok (.aload_n 0, 1) := by decide +kernel
theorem dX1_walk_21 : decode cX1_walk 21 = .ok (.iconst 0, 1) := by decide +kernel
theorem dX1_walk_22 : decode cX1_walk 22 = .ok (.aload_n 0, 1) := by decide +kernel
theorem dX1_walk_23 : decode cX1_walk 23 = .ok (.getfield 43, 3) := by decide +kernel
theorem dX1_walk_26 : decode cX1_walk 26 = .ok (.iload_n 1, 1) := by decide +kernel
theorem dX1_walk_27 : decode cX1_walk 27 = .ok (.iconst 5, 1) := by decide +kernel
theorem dX1_walk_28 : decode cX1_walk 28 = .ok (.idiv, 1) := by decide +kernel
theorem dX1_walk_29 : decode cX1_walk 29 = .ok (.isub, 1) := by decide +kernel
theorem dX1_walk_30 : decode cX1_walk 30 = .ok (.invokestatic 60, 3) := by decide +kernel
theorem dX1_walk_33 : decode cX1_walk 33 = .ok (.putfield 43, 3) := by decide +kernel
theorem dX1_walk_36 : decode cX1_walk 36 = .ok (.aload_n 0, 1) := by decide +kernel
theorem dX1_walk_37 : decode cX1_walk 37 = .ok (.getfield 9, 3) := by decide +kernel
theorem dX1_walk_40 : decode cX1_walk 40 = .ok (.bipush 60, 2) := by decide +kernel
theorem dX1_walk_42 : decode cX1_walk 42 = .ok (.if_icmp .gt 5, 3) := by decide +kernel
theorem dX1_walk_45 : decode cX1_walk 45 = .ok (.iconst 0, 1) := by decide +kernel
theorem dX1_walk_46 : decode cX1_walk 46 = .ok (.ireturn, 1) := by decide +kernel
theorem dX1_walk_47 : decode cX1_walk 47 = .ok (.aload_n 0, 1) := by decide +kernel
theorem dX1_walk_48 : decode cX1_walk 48 = .ok (.getfield 40, 3) := by decide +kernel
theorem dX1_walk_51 : decode cX1_walk 51 = .ok (.aload_n 0, 1) := by decide +kernel
theorem dX1_walk_52 : decode cX1_walk 52 = .ok (.getfield 40, 3) := by decide +kernel
theorem dX1_walk_55 : decode cX1_walk 55 = .ok (.bipush 20, 2) := by decide +kernel
theorem dX1_walk_57 : decode cX1_walk 57 = .ok (.idiv, 1) := by decide +kernel
theorem dX1_walk_58 : decode cX1_walk 58 = .ok (.iconst 1, 1) := by decide +kernel
theorem dX1_walk_59 : decode cX1_walk 59 = .ok (.iadd, 1) := by decide +kernel
theorem dX1_walk_60 : decode cX1_walk 60 = .ok (.invokestatic 66, 3) := by decide +kernel
theorem dX1_walk_63 : decode cX1_walk 63 = .ok (.istore_n 2, 1) := by decide +kernel
theorem dX1_walk_64 : decode cX1_walk 64 = .ok (.aload_n 0, 1) := by decide +kernel
theorem dX1_walk_65 : decode cX1_walk 65 = .ok (.dup, 1) := by decide +kernel
theorem dX1_walk_66 : decode cX1_walk 66 = .ok (.getfield 40, 3) := by decide +kernel
theorem dX1_walk_69 : decode cX1_walk 69 = .ok (.iload_n 2, 1) := by decide +kernel
theorem dX1_walk_70 : decode cX1_walk 70 = .ok (.isub, 1) := by decide +kernel
theorem dX1_walk_71 : decode cX1_walk 71 = .ok (.putfield 40, 3) := by decide +kernel
theorem dX1_walk_74 : decode cX1_walk 74 = .ok (.aload_n 0, 1) := by decide +kernel
theorem dX1_walk_75 : decode cX1_walk 75 = .ok (.dup, 1) := by decide +kernel
theorem dX1_walk_76 : decode cX1_walk 76 = .ok (.getfield 28, 3) := by decide +kernel
theorem dX1_walk_79 : decode cX1_walk 79 = .ok (.iload_n 2, 1) := by decide +kernel
theorem dX1_walk_80 : decode cX1_walk 80 = .ok (.iadd, 1) := by decide +kernel
theorem dX1_walk_81 : decode cX1_walk 81 = .ok (.putfield 28, 3) := by decide +kernel
theorem dX1_walk_84 : decode cX1_walk 84 = .ok (.iload_n 2, 1) := by decide +kernel
theorem dX1_walk_85 : decode cX1_walk 85 = .ok (.ireturn, 1) := by decide +kernel
theorem dX1_eat_0 : decode cX1_eat 0 = .ok (.aload_n 0, 1) := by decide +kernel
theorem dX1_eat_1 : decode cX1_eat 1 = .ok (.dup, 1) := by decide +kernel
theorem dX1_eat_2 : decode cX1_eat 2 = .ok (.getfield 37, 3) := by decide +kernel
theorem dX1_eat_5 : decode cX1_eat 5 = .ok (.iload_n 1, 1) := by decide +kernel
theorem dX1_eat_6 : decode cX1_eat 6 = .ok (.iadd, 1) := by decide +kernel
theorem dX1_eat_7 : decode cX1_eat 7 = .ok (.putfield 37, 3) := by decide +kernel
theorem dX1_eat_10 : decode cX1_eat 10 = .ok (.iload_n 1, 1) := by decide +kernel
theorem dX1_eat_11 : decode cX1_eat 11 = .ok (.aload_n 0, 1) := by decide +kernel
theorem dX1_eat_12 : decode cX1_eat 12 = .ok (.invokevirtual 70, 3) := by decide +kernel
theorem dX1_eat_15 : decode cX1_eat 15 = .ok (.if_icmp .lt 30, 3) := by decide +kernel
theorem dX1_eat_18 : decode cX1_eat 18 = .ok (.aload_n 0, 1) := by decide +kernel
theorem dX1_eat_19 : decode cX1_eat 19 = .ok (.sipush 700, 3) := by decide +kernel
theorem dX1_eat_22 : decode cX1_eat 22 = .ok (.aload_n 0, 1) := by decide +kernel
theorem dX1_eat_23 : decode cX1_eat 23 = .ok (.getfield 43, 3) := by decide +kernel
theorem dX1_eat_26 : decode cX1_eat 26 = .ok (.iload_n 2, 1) := by decide +kernel
theorem dX1_eat_27 : decode cX1_eat 27 = .ok (.ifCond .eq 7, 3) := by decide +kernel
theorem dX1_eat_30 : decode cX1_eat 30 = .ok (.iconst 1, 1) := by decide +kernel
theorem dX1_eat_31 : decode cX1_eat 31 = .ok (.goto 4, 3) := by decide +kernel
theorem dX1_eat_34 : decode cX1_eat 34 = .ok (.iconst 3, 1) := by decide +kernel
theorem dX1_eat_35 : decode cX1_eat 35 = .ok (.iadd, 1) := by decide +kernel
theorem dX1_eat_36 : decode cX1_eat 36 = .ok (.invokestatic 66, 3) := by decide +kernel
theorem dX1_eat_39 : decode cX1_eat 39 = .ok (.putfield 43, 3) := by decide +kernel
theorem dX1_eat_42 : decode cX1_eat 42 = .ok (.goto 17, 3) := by decide +kernel
theorem dX1_eat_45 : decode cX1_eat 45 = .ok (.aload_n 0, 1) := by decide +kernel
theorem dX1_eat_46 : decode cX1_eat 46 = .ok (.iconst 0, 1) := by decide +kernel
theorem dX1_eat_47 : decode cX1_eat 47 = .ok (.aload_n 0, 1) := by decide +kernel
theorem dX1_eat_48 : decode cX1_eat 48 = .ok (.getfield 43, 3) := by decide +kernel
theorem dX1_eat_51 : decode cX1_eat 51 = .ok (.iconst 4, 1) := by decide +kernel
theorem dX1_eat_52 : decode cX1_eat 52 = .ok (.isub, 1) := by decide +kernel
theorem dX1_eat_53 : decode cX1_eat 53 = .ok (.invokestatic 60, 3) := by decide +kernel
theorem dX1_eat_56 : decode cX1_eat 56 = .ok (.putfield 43, 3) := by decide +kernel
theorem dX1_eat_59 : decode cX1_eat 59 = .ok (.aload_n 0, 1) := by decide +kernel
theorem dX1_eat_60 : decode cX1_eat 60 = .ok (.getfield 43, 3) := by decide +kernel
theorem dX1_eat_63 : decode cX1_eat 63 = .ok (.bipush 80, 2) := by decide +kernel
theorem dX1_eat_65 : decode cX1_eat 65 = .ok (.if_icmp .ge 40, 3) := by decide +kernel
theorem dX1_eat_68 : decode cX1_eat 68 = .ok (.aload_n 0, 1) := by decide +kernel
theorem dX1_eat_69 : decode cX1_eat 69 = .ok (.getfield 40, 3) := by decide +kernel
theorem dX1_eat_72 : decode cX1_eat 72 = .ok (.aload_n 0, 1) := by decide +kernel
theorem dX1_eat_73 : decode cX1_eat 73 = .ok (.getfield 40, 3) := by decide +kernel
theorem dX1_eat_76 : decode cX1_eat 76 = .ok (.bipush 10, 2) := by decide +kernel
theorem dX1_eat_78 : decode cX1_eat 78 = .ok (.idiv, 1) := by decide +kernel
theorem dX1_eat_79 : decode cX1_eat 79 = .ok (.iconst 1, 1) := by decide +kernel
theorem dX1_eat_80 : decode cX1_eat 80 = .ok (.iadd, 1) := by decide +kernel
theorem dX1_eat_81 : decode cX1_eat 81 = .ok (.invokestatic 66, 3) := by decide +kernel
theorem dX1_eat_84 : decode cX1_eat 84 = .ok (.istore_n 3, 1) := by decide +kernel
theorem dX1_eat_85 : decode cX1_eat 85 = .ok (.aload_n 0, 1) := by decide +kernel
theorem dX1_eat_86 : decode cX1_eat 86 = .ok (.dup, 1) := by decide +kernel
theorem dX1_eat_87 : decode cX1_eat 87 = .ok (.getfield 40, 3) := by decide +kernel
theorem dX1_eat_90 : decode cX1_eat 90 = .ok (.iload_n 3, 1) := by decide +kernel
theorem dX1_eat_91 : decode cX1_eat 91 = .ok (.isub, 1) := by decide +kernel
theorem dX1_eat_92 : decode cX1_eat 92 = .ok (.putfield 40, 3) := by decide +kernel
theorem dX1_eat_95 : decode cX1_eat 95 = .ok (.aload_n 0, 1) := by decide +kernel
theorem dX1_eat_96 : decode cX1_eat 96 = .ok (.dup, 1) := by decide +kernel
theorem dX1_eat_97 : decode cX1_eat 97 = .ok (.getfield 34, 3) := by decide +kernel
theorem dX1_eat_100 : decode cX1_eat 100 = .ok (.iload_n 3, 1) := by decide +kernel
theorem dX1_eat_101 : decode cX1_eat 101 = .ok (.iadd, 1) := by decide +kernel
theorem dX1_eat_102 : decode cX1_eat 102 = .ok (.putfield 34, 3) := by decide +kernel
theorem dX1_eat_105 : decode cX1_eat 105 = .ok (.return_, 1) := by decide +kernel
theorem dX1_tell_0 : decode cX1_tell 0 = .ok (.iload_n 1, 1) := by decide +kernel
theorem dX1_tell_1 : decode cX1_tell 1 = .ok (.tableswitch 108 0 9 #[55, 60, 65, 70, 75, 80, 85, 90, 95, 103], 55) := by decide +kernel
theorem dX1_tell_56 : decode cX1_tell 56 = .ok (.aload_n 0, 1) := by decide +kernel
theorem dX1_tell_57 : decode cX1_tell 57 = .ok (.getfield 40, 3) := by decide +kernel
theorem dX1_tell_60 : decode cX1_tell 60 = .ok (.ireturn, 1) := by decide +kernel
theorem dX1_tell_61 : decode cX1_tell 61 = .ok (.aload_n 0, 1) := by decide +kernel
theorem dX1_tell_62 : decode cX1_tell 62 = .ok (.getfield 43, 3) := by decide +kernel
theorem dX1_tell_65 : decode cX1_tell 65 = .ok (.ireturn, 1) := by decide +kernel
theorem dX1_tell_66 : decode cX1_tell 66 = .ok (.aload_n 0, 1) := by decide +kernel
theorem dX1_tell_67 : decode cX1_tell 67 = .ok (.getfield 9, 3) := by decide +kernel
theorem dX1_tell_70 : decode cX1_tell 70 = .ok (.ireturn, 1) := by decide +kernel
theorem dX1_tell_71 : decode cX1_tell 71 = .ok (.aload_n 0, 1) := by decide +kernel
theorem dX1_tell_72 : decode cX1_tell 72 = .ok (.getfield 15, 3) := by decide +kernel
theorem dX1_tell_75 : decode cX1_tell 75 = .ok (.ireturn, 1) := by decide +kernel
theorem dX1_tell_76 : decode cX1_tell 76 = .ok (.aload_n 0, 1) := by decide +kernel
theorem dX1_tell_77 : decode cX1_tell 77 = .ok (.getfield 25, 3) := by decide +kernel
theorem dX1_tell_80 : decode cX1_tell 80 = .ok (.ireturn, 1) := by decide +kernel
theorem dX1_tell_81 : decode cX1_tell 81 = .ok (.aload_n 0, 1) := by decide +kernel
theorem dX1_tell_82 : decode cX1_tell 82 = .ok (.getfield 28, 3) := by decide +kernel
theorem dX1_tell_85 : decode cX1_tell 85 = .ok (.ireturn, 1) := by decide +kernel
theorem dX1_tell_86 : decode cX1_tell 86 = .ok (.aload_n 0, 1) := by decide +kernel
theorem dX1_tell_87 : decode cX1_tell 87 = .ok (.getfield 31, 3) := by decide +kernel
theorem dX1_tell_90 : decode cX1_tell 90 = .ok (.ireturn, 1) := by decide +kernel
theorem dX1_tell_91 : decode cX1_tell 91 = .ok (.aload_n 0, 1) := by decide +kernel
theorem dX1_tell_92 : decode cX1_tell 92 = .ok (.getfield 34, 3) := by decide +kernel
theorem dX1_tell_95 : decode cX1_tell 95 = .ok (.ireturn, 1) := by decide +kernel
theorem dX1_tell_96 : decode cX1_tell 96 = .ok (.aload_n 0, 1) := by decide +kernel
theorem dX1_tell_97 : decode cX1_tell 97 = .ok (.getfield 21, 3) := by decide +kernel
theorem dX1_tell_100 : decode cX1_tell 100 = .ok (.getfield 74, 3) := by decide +kernel
theorem dX1_tell_103 : decode cX1_tell 103 = .ok (.ireturn, 1) := by decide +kernel
theorem dX1_tell_104 : decode cX1_tell 104 = .ok (.aload_n 0, 1) := by decide +kernel
theorem dX1_tell_105 : decode cX1_tell 105 = .ok (.getfield 37, 3) := by decide +kernel
theorem dX1_tell_108 : decode cX1_tell 108 = .ok (.ireturn, 1) := by decide +kernel
theorem dX1_tell_109 : decode cX1_tell 109 = .ok (.iconst (-1), 1) := by decide +kernel
theorem dX1_tell_110 : decode cX1_tell 110 = .ok (.ireturn, 1) := by decide +kernel
theorem dX2_init_0 : decode cX2_init 0 = .ok (.aload_n 0, 1) := by decide +kernel
theorem dX2_init_1 : decode cX2_init 1 = .ok (.invokespecial 3, 3) := by decide +kernel
theorem dX2_init_4 : decode cX2_init 4 = .ok (.aload_n 0, 1) := by decide +kernel
theorem dX2_init_5 : decode cX2_init 5 = .ok (.iconst 0, 1) := by decide +kernel
theorem dX2_init_6 : decode cX2_init 6 = .ok (.putfield 9, 3) := by decide +kernel
theorem dX2_init_9 : decode cX2_init 9 = .ok (.aload_n 0, 1) := by decide +kernel
theorem dX2_init_10 : decode cX2_init 10 = .ok (.bipush 30, 2) := by decide +kernel
theorem dX2_init_12 : decode cX2_init 12 = .ok (.newarray .int, 2) := by decide +kernel
theorem dX2_init_14 : decode cX2_init 14 = .ok (.putfield 15, 3) := by decide +kernel
theorem dX2_init_17 : decode cX2_init 17 = .ok (.aload_n 0, 1) := by decide +kernel
theorem dX2_init_18 : decode cX2_init 18 = .ok (.bipush 30, 2) := by decide +kernel
theorem dX2_init_20 : decode cX2_init 20 = .ok (.newarray .int, 2) := by decide +kernel
theorem dX2_init_22 : decode cX2_init 22 = .ok (.putfield 19, 3) := by decide +kernel
theorem dX2_init_25 : decode cX2_init 25 = .ok (.return_, 1) := by decide +kernel
theorem dX2_send_0 : decode cX2_send 0 = .ok (.iload_n 1, 1) := by decide +kernel
theorem dX2_send_1 : decode cX2_send 1 = .ok (.iconst 0, 1) := by decide +kernel
theorem dX2_send_2 : decode cX2_send 2 = .ok (.sipush 1000, 3) := by decide +kernel
theorem dX2_send_5 : decode cX2_send 5 = .ok (.invokestatic 22, 3) := by decide +kernel
theorem dX2_send_8 : decode cX2_send 8 = .ok (.ifCond .eq 12, 3) := by decide +kernel
theorem dX2_send_11 : decode cX2_send 11 = .ok (.aload_n 0, 1) := by decide +kernel
theorem dX2_send_12 : decode cX2_send 12 = .ok (.getfield 9, 3) := by decide +kernel
theorem dX2_send_15 : decode cX2_send 15 = .ok (.bipush 30, 2) := by decide +kernel
theorem dX2_send_17 : decode cX2_send 17 = .ok (.if_icmp .lt 5, 3) := by decide +kernel
theorem dX2_send_20 : decode cX2_send 20 = .ok (.iconst (-1), 1) := by decide +kernel
theorem dX2_send_21 : decode cX2_send 21 = .ok (.ireturn, 1) := by decide +kernel
theorem dX2_send_22 : decode cX2_send 22 = .ok (.aload_n 0, 1) := by decide +kernel
theorem dX2_send_23 : decode cX2_send 23 = .ok (.getfield 15, 3) := by decide +kernel
theorem dX2_send_26 : decode cX2_send 26 = .ok (.aload_n 0, 1) := by decide +kernel
theorem dX2_send_27 : decode cX2_send 27 = .ok (.getfield 9, 3) := by decide +kernel
theorem dX2_send_30 : decode cX2_send 30 = .ok (.iload_n 1, 1) := by decide +kernel
theorem dX2_send_31 : decode cX2_send 31 = .ok (.iastore, 1) := by decide +kernel
theorem dX2_send_32 : decode cX2_send 32 = .ok (.aload_n 0, 1) := by decide +kernel
theorem dX2_send_33 : decode cX2_send 33 = .ok (.getfield 19, 3) := by decide +kernel
theorem dX2_send_36 : decode cX2_send 36 = .ok (.aload_n 0, 1) := by decide +kernel
theorem dX2_send_37 : decode cX2_send 37 = .ok (.getfield 9, 3) := by decide +kernel
theorem dX2_send_40 : decode cX2_send 40 = .ok (.iload_n 2, 1) := by decide +kernel
theorem dX2_send_41 : decode cX2_send 41 = .ok (.iastore, 1) := by decide +kernel
theorem dX2_send_42 : decode cX2_send 42 = .ok (.aload_n 0, 1) := by decide +kernel
theorem dX2_send_43 : decode cX2_send 43 = .ok (.dup, 1) := by decide +kernel
theorem dX2_send_44 : decode cX2_send 44 = .ok (.getfield 9, 3) := by decide +kernel
theorem dX2_send_47 : decode cX2_send 47 = .ok (.iconst 1, 1) := by decide +kernel
theorem dX2_send_48 : decode cX2_send 48 = .ok (.iadd, 1) := by decide +kernel
theorem dX2_send_49 : decode cX2_send 49 = .ok (.putfield 9, 3) := by decide +kernel
theorem dX2_send_52 : decode cX2_send 52 = .ok (.aload_n 0, 1) := by decide +kernel
theorem dX2_send_53 : decode cX2_send 53 = .ok (.getfield 9, 3) := by decide +kernel
theorem dX2_send_56 : decode cX2_send 56 = .ok (.ireturn, 1) := by decide +kernel
theorem dX2_priceKnown_0 : decode cX2_priceKnown 0 = .ok (.iload_n 1, 1) := by decide +kernel
theorem dX2_priceKnown_1 : decode cX2_priceKnown 1 = .ok (.bipush 40, 2) := by decide +kernel
theorem dX2_priceKnown_3 : decode cX2_priceKnown 3 = .ok (.iadd, 1) := by decide +kernel
theorem dX2_priceKnown_4 : decode cX2_priceKnown 4 = .ok (.iconst 1, 1) := by decide +kernel
theorem dX2_priceKnown_5 : decode cX2_priceKnown 5 = .ok (.isub, 1) := by decide +kernel
theorem dX2_priceKnown_6 : decode cX2_priceKnown 6 = .ok (.bipush 40, 2) := by decide +kernel
theorem dX2_priceKnown_8 : decode cX2_priceKnown 8 = .ok (.idiv, 1) := by decide +kernel
theorem dX2_priceKnown_9 : decode cX2_priceKnown 9 = .ok (.istore_n 3, 1) := by decide +kernel
theorem dX2_priceKnown_10 : decode cX2_priceKnown 10 = .ok (.aload_n 0, 1) := by decide +kernel
theorem dX2_priceKnown_11 : decode cX2_priceKnown 11 = .ok (.getfield 9, 3) := by decide +kernel
theorem dX2_priceKnown_14 : decode cX2_priceKnown 14 = .ok (.iconst 1, 1) := by decide +kernel
theorem dX2_priceKnown_15 : decode cX2_priceKnown 15 = .ok (.isub, 1) := by decide +kernel
theorem dX2_priceKnown_16 : decode cX2_priceKnown 16 = .ok (.istore 4, 2) := by decide +kernel
theorem dX2_priceKnown_18 : decode cX2_priceKnown 18 = .ok (.iload 4, 2) := by decide +kernel
theorem dX2_priceKnown_20 : decode cX2_priceKnown 20 = .ok (.ifCond .lt 30, 3) := by decide +kernel
theorem dX2_priceKnown_23 : decode cX2_priceKnown 23 = .ok (.aload_n 0, 1) := by decide +kernel
theorem dX2_priceKnown_24 : decode cX2_priceKnown 24 = .ok (.getfield 19, 3) := by decide +kernel
theorem dX2_priceKnown_27 : decode cX2_priceKnown 27 = .ok (.iload 4, 2) := by decide +kernel
theorem dX2_priceKnown_29 : decode cX2_priceKnown 29 = .ok (.iaload, 1) := by decide +kernel
theorem dX2_priceKnown_30 : decode cX2_priceKnown 30 = .ok (.iload_n 3, 1) := by decide +kernel
theorem dX2_priceKnown_31 : decode cX2_priceKnown 31 = .ok (.iadd, 1) := by decide +kernel
theorem dX2_priceKnown_32 : decode cX2_priceKnown 32 = .ok (.iload_n 2, 1) := by decide +kernel
theorem dX2_priceKnown_33 : decode cX2_priceKnown 33 = .ok (.if_icmp .gt 11, 3) := by decide +kernel
theorem dX2_priceKnown_36 : decode cX2_priceKnown 36 = .ok (.aload_n 0, 1) := by decide +kernel
theorem dX2_priceKnown_37 : decode cX2_priceKnown 37 = .ok (.getfield 15, 3) := by decide +kernel
theorem dX2_priceKnown_40 : decode cX2_priceKnown 40 = .ok (.iload 4, 2) := by decide +kernel
theorem dX2_priceKnown_42 : decode cX2_priceKnown 42 = .ok (.iaload, 1) := by decide +kernel
theorem dX2_priceKnown_43 : decode cX2_priceKnown 43 = .ok (.ireturn, 1) := by decide +kernel
theorem dX2_priceKnown_44 : decode cX2_priceKnown 44 = .ok (.iinc 4 (-1), 3) := by decide +kernel
theorem dX2_priceKnown_47 : decode cX2_priceKnown 47 = .ok (.goto (-29), 3) := by decide +kernel
theorem dX2_priceKnown_50 : decode cX2_priceKnown 50 = .ok (.iconst 0, 1) := by decide +kernel
theorem dX2_priceKnown_51 : decode cX2_priceKnown 51 = .ok (.ireturn, 1) := by decide +kernel
theorem dX3_init_0 : decode cX3_init 0 = .ok (.aload_n 0, 1) := by decide +kernel
theorem dX3_init_1 : decode cX3_init 1 = .ok (.invokespecial 1, 3) := by decide +kernel
theorem dX3_init_4 : decode cX3_init 4 = .ok (.aload_n 0, 1) := by decide +kernel
theorem dX3_init_5 : decode cX3_init 5 = .ok (.bipush 27, 2) := by decide +kernel
theorem dX3_init_7 : decode cX3_init 7 = .ok (.putfield 9, 3) := by decide +kernel
theorem dX3_init_10 : decode cX3_init 10 = .ok (.aload_n 0, 1) := by decide +kernel
theorem dX3_init_11 : decode cX3_init 11 = .ok (.iconst 0, 1) := by decide +kernel
theorem dX3_init_12 : decode cX3_init 12 = .ok (.putfield 13, 3) := by decide +kernel
theorem dX3_init_15 : decode cX3_init 15 = .ok (.aload_n 0, 1) := by decide +kernel
theorem dX3_init_16 : decode cX3_init 16 = .ok (.iconst 0, 1) := by decide +kernel
theorem dX3_init_17 : decode cX3_init 17 = .ok (.putfield 16, 3) := by decide +kernel
theorem dX3_init_20 : decode cX3_init 20 = .ok (.aload_n 0, 1) := by decide +kernel
theorem dX3_init_21 : decode cX3_init 21 = .ok (.iconst 0, 1) := by decide +kernel
theorem dX3_init_22 : decode cX3_init 22 = .ok (.putfield 19, 3) := by decide +kernel
theorem dX3_init_25 : decode cX3_init 25 = .ok (.aload_n 0, 1) := by decide +kernel
theorem dX3_init_26 : decode cX3_init 26 = .ok (.aload_n 1, 1) := by decide +kernel
theorem dX3_init_27 : decode cX3_init 27 = .ok (.putfield 22, 3) := by decide +kernel
theorem dX3_init_30 : decode cX3_init 30 = .ok (.aload_n 0, 1) := by decide +kernel
theorem dX3_init_31 : decode cX3_init 31 = .ok (.iload_n 2, 1) := by decide +kernel
theorem dX3_init_32 : decode cX3_init 32 = .ok (.aload_n 1, 1) := by decide +kernel
theorem dX3_init_33 : decode cX3_init 33 = .ok (.arraylength, 1) := by decide +kernel
theorem dX3_init_34 : decode cX3_init 34 = .ok (.invokestatic 26, 3) := by decide +kernel
theorem dX3_init_37 : decode cX3_init 37 = .ok (.putfield 32, 3) := by decide +kernel
theorem dX3_init_40 : decode cX3_init 40 = .ok (.return_, 1) := by decide +kernel
theorem dX3_advance_0 : decode cX3_advance 0 = .ok (.aload_n 0, 1) := by decide +kernel
theorem dX3_advance_1 : decode cX3_advance 1 = .ok (.getfield 19, 3) := by decide +kernel
theorem dX3_advance_4 : decode cX3_advance 4 = .ok (.aload_n 0, 1) := by decide +kernel
theorem dX3_advance_5 : decode cX3_advance 5 = .ok (.getfield 32, 3) := by decide +kernel
theorem dX3_advance_8 : decode cX3_advance 8 = .ok (.if_icmp .ge 30, 3) := by decide +kernel
theorem dX3_advance_11 : decode cX3_advance 11 = .ok (.aload_n 0, 1) := by decide +kernel
theorem dX3_advance_12 : decode cX3_advance 12 = .ok (.aload_n 0, 1) := by decide +kernel
theorem dX3_advance_13 : decode cX3_advance 13 = .ok (.getfield 19, 3) := by decide +kernel
theorem dX3_advance_16 : decode cX3_advance 16 = .ok (.invokevirtual 35, 3) := by decide +kernel
theorem dX3_advance_19 : decode cX3_advance 19 = .ok (.invokestatic 39, 3) := by decide +kernel
theorem dX3_advance_22 : decode cX3_advance 22 = .ok (.ifCond .eq 16, 3) := by decide +kernel
theorem dX3_advance_25 : decode cX3_advance 25 = .ok (.aload_n 0, 1) := by decide +kernel
theorem dX3_advance_26 : decode cX3_advance 26 = .ok (.dup, 1) := by decide +kernel
theorem dX3_advance_27 : decode cX3_advance 27 = .ok (.getfield 19, 3) := by decide +kernel
theorem dX3_advance_30 : decode cX3_advance 30 = .ok (.iconst 1, 1) := by decide +kernel
theorem dX3_advance_31 : decode cX3_advance 31 = .ok (.iadd, 1) := by decide +kernel
theorem dX3_advance_32 : decode cX3_advance 32 = .ok (.putfield 19, 3) := by decide +kernel
theorem dX3_advance_35 : decode cX3_advance 35 = .ok (.goto (-35), 3) := by decide +kernel
theorem dX3_advance_38 : decode cX3_advance 38 = .ok (.aload_n 0, 1) := by decide +kernel
theorem dX3_advance_39 : decode cX3_advance 39 = .ok (.aload_n 0, 1) := by decide +kernel
theorem dX3_advance_40 : decode cX3_advance 40 = .ok (.getfield 19, 3) := by decide +kernel
theorem dX3_advance_43 : decode cX3_advance 43 = .ok (.putfield 13, 3) := by decide +kernel
theorem dX3_advance_46 : decode cX3_advance 46 = .ok (.aload_n 0, 1) := by decide +kernel
theorem dX3_advance_47 : decode cX3_advance 47 = .ok (.aload_n 0, 1) := by decide +kernel
theorem dX3_advance_48 : decode cX3_advance 48 = .ok (.getfield 19, 3) := by decide +kernel
theorem dX3_advance_51 : decode cX3_advance 51 = .ok (.invokevirtual 35, 3) := by decide +kernel
theorem dX3_advance_54 : decode cX3_advance 54 = .ok (.istore_n 1, 1) := by decide +kernel
theorem dX3_advance_55 : decode cX3_advance 55 = .ok (.aload_n 0, 1) := by decide +kernel
theorem dX3_advance_56 : decode cX3_advance 56 = .ok (.getfield 19, 3) := by decide +kernel
theorem dX3_advance_59 : decode cX3_advance 59 = .ok (.aload_n 0, 1) := by decide +kernel
theorem dX3_advance_60 : decode cX3_advance 60 = .ok (.getfield 32, 3) := by decide +kernel
theorem dX3_advance_63 : decode cX3_advance 63 = .ok (.if_icmp .lt 12, 3) := by decide +kernel
theorem dX3_advance_66 : decode cX3_advance 66 = .ok (.aload_n 0, 1) := by decide +kernel
theorem dX3_advance_67 : decode cX3_advance 67 = .ok (.bipush 27, 2) := by decide +kernel
theorem dX3_advance_69 : decode cX3_advance 69 = .ok (.putfield 9, 3) := by decide +kernel
theorem dX3_advance_72 : decode cX3_advance 72 = .ok (.goto 37, 3) := by decide +kernel
theorem dX3_advance_75 : decode cX3_advance 75 = .ok (.iload_n 1, 1) := by decide +kernel
theorem dX3_advance_76 : decode cX3_advance 76 = .ok (.invokestatic 43, 3) := by decide +kernel
theorem dX3_advance_79 : decode cX3_advance 79 = .ok (.ifCond .eq 10, 3) := by decide +kernel
theorem dX3_advance_82 : decode cX3_advance 82 = .ok (.aload_n 0, 1) := by decide +kernel
theorem dX3_advance_83 : decode cX3_advance 83 = .ok (.invokevirtual 46, 3) := by decide +kernel
theorem dX3_advance_86 : decode cX3_advance 86 = .ok (.goto 23, 3) := by decide +kernel
theorem dX3_advance_89 : decode cX3_advance 89 = .ok (.iload_n 1, 1) := by decide +kernel
theorem dX3_advance_90 : decode cX3_advance 90 = .ok (.invokestatic 49, 3) := by decide +kernel
theorem dX3_advance_93 : decode cX3_advance 93 = .ok (.ifCond .eq 10, 3) := by decide +kernel
theorem dX3_advance_96 : decode cX3_advance 96 = .ok (.aload_n 0, 1) := by decide +kernel
theorem dX3_advance_97 : decode cX3_advance 97 = .ok (.invokevirtual 52, 3) := by decide +kernel
theorem dX3_advance_100 : decode cX3_advance 100 = .ok (.goto 9, 3) := by decide +kernel
theorem dX3_advance_103 : decode cX3_advance 103 = .ok (.aload_n 0, 1) := by decide +kernel
theorem dX3_advance_104 : decode cX3_advance 104 = .ok (.iload_n 1, 1) := by decide +kernel
theorem dX3_advance_105 : decode cX3_advance 105 = .ok (.i2c, 1) := by decide +kernel
theorem dX3_advance_106 : decode cX3_advance 106 = .ok (.invokevirtual 55, 3) := by decide +kernel
theorem dX3_advance_109 : decode cX3_advance 109 = .ok (.return_, 1) := by decide +kernel
theorem dX3_scanWord_0 : decode cX3_scanWord 0 = .ok (.aload_n 0, 1) := by decide +kernel
theorem dX3_scanWord_1 : decode cX3_scanWord 1 = .ok (.getfield 19, 3) := by decide +kernel
theorem dX3_scanWord_4 : decode cX3_scanWord 4 = .ok (.aload_n 0, 1) := by decide +kernel
theorem dX3_scanWord_5 : decode cX3_scanWord 5 = .ok (.getfield 32, 3) := by decide +kernel
theorem dX3_scanWord_8 : decode cX3_scanWord 8 = .ok (.if_icmp .ge 30, 3) := by decide +kernel
theorem dX3_scanWord_11 : decode cX3_scanWord 11 = .ok (.aload_n 0, 1) := by decide +kernel
theorem dX3_scanWord_12 : decode cX3_scanWord 12 = .ok (.aload_n 0, 1) := by decide +kernel
theorem dX3_scanWord_13 : decode cX3_scanWord 13 = .ok (.getfield 19, 3) := by decide +kernel
theorem dX3_scanWord_16 : decode cX3_scanWord 16 = .ok (.invokevirtual 35, 3) := by decide +kernel
theorem dX3_scanWord_19 : decode cX3_scanWord 19 = .ok (.invokestatic 43, 3) := by decide +kernel
theorem dX3_scanWord_22 : decode cX3_scanWord 22 = .ok (.ifCond .eq 16, 3) := by decide +kernel
theorem dX3_scanWord_25 : decode cX3_scanWord 25 = .ok (.aload_n 0, 1) := by decide +kernel
theorem dX3_scanWord_26 : decode cX3_scanWord 26 = .ok (.dup, 1) := by decide +kernel
theorem dX3_scanWord_27 : decode cX3_scanWord 27 = .ok (.getfield 19, 3) := by decide +kernel
theorem dX3_scanWord_30 : decode cX3_scanWord 30 = .ok (.iconst 1, 1) := by decide +kernel
theorem dX3_scanWord_31 : decode cX3_scanWord 31 = .ok (.iadd, 1) := by decide +kernel
theorem dX3_scanWord_32 : decode cX3_scanWord 32 = .ok (.putfield 19, 3) := by decide +kernel
theorem dX3_scanWord_35 : decode cX3_scanWord 35 = .ok (.goto (-35), 3) := by decide +kernel
theorem dX3_scanWord_38 : decode cX3_scanWord 38 = .ok (.aload_n 0, 1) := by decide +kernel
theorem dX3_scanWord_39 : decode cX3_scanWord 39 = .ok (.aload_n 0, 1) := by decide +kernel
theorem dX3_scanWord_40 : decode cX3_scanWord 40 = .ok (.getfield 19, 3) := by decide +kernel
theorem dX3_scanWord_43 : decode cX3_scanWord 43 = .ok (.aload_n 0, 1) := by decide +kernel
theorem dX3_scanWord_44 : decode cX3_scanWord 44 = .ok (.getfield 13, 3) := by decide +kernel
theorem dX3_scanWord_47 : decode cX3_scanWord 47 = .ok (.isub, 1) := by decide +kernel
theorem dX3_scanWord_48 : decode cX3_scanWord 48 = .ok (.bipush 8, 2) := by decide +kernel
theorem dX3_scanWord_50 : decode cX3_scanWord 50 = .ok (.if_icmp .le 8, 3) := by decide +kernel
theorem dX3_scanWord_53 : decode cX3_scanWord 53 = .ok (.bipush 28, 2) := by decide +kernel
theorem dX3_scanWord_55 : decode cX3_scanWord 55 = .ok (.goto 7, 3) := by decide +kernel
theorem dX3_scanWord_58 : decode cX3_scanWord 58 = .ok (.aload_n 0, 1) := by decide +kernel
theorem dX3_scanWord_59 : decode cX3_scanWord 59 = .ok (.invokevirtual 59, 3) := by decide +kernel
theorem dX3_scanWord_62 : decode cX3_scanWord 62 = .ok (.putfield 9, 3) := by decide +kernel
theorem dX3_scanWord_65 : decode cX3_scanWord 65 = .ok (.return_, 1) := by decide +kernel
theorem dX3_scanNumber_0 : decode cX3_scanNumber 0 = .ok (.aload_n 0, 1) := by decide +kernel
theorem dX3_scanNumber_1 : decode cX3_scanNumber 1 = .ok (.iconst 0, 1) := by decide +kernel
theorem dX3_scanNumber_2 : decode cX3_scanNumber 2 = .ok (.putfield 16, 3) := by decide +kernel
theorem dX3_scanNumber_5 : decode cX3_scanNumber 5 = .ok (.aload_n 0, 1) := by decide +kernel
theorem dX3_scanNumber_6 : decode cX3_scanNumber 6 = .ok (.getfield 19, 3) := by decide +kernel
theorem dX3_scanNumber_9 : decode cX3_scanNumber 9 = .ok (.aload_n 0, 1) := by decide +kernel
theorem dX3_scanNumber_10 : decode cX3_scanNumber 10 = .ok (.getfield 32, 3) := by decide +kernel
theorem dX3_scanNumber_13 : decode cX3_scanNumber 13 = .ok (.if_icmp .ge 53, 3) := by decide +kernel
theorem dX3_scanNumber_16 : decode cX3_scanNumber 16 = .ok (.aload_n 0, 1) := by decide +kernel
theorem dX3_scanNumber_17 : decode cX3_scanNumber 17 = .ok (.aload_n 0, 1) := by decide +kernel
theorem dX3_scanNumber_18 : decode cX3_scanNumber 18 = .ok (.getfield 19, 3) := by decide +kernel
theorem dX3_scanNumber_21 : decode cX3_scanNumber 21 = .ok (.invokevirtual 35, 3) := by decide +kernel
theorem dX3_scanNumber_24 : decode cX3_scanNumber 24 = .ok (.invokestatic 49, 3) := by decide +kernel
theorem dX3_scanNumber_27 : decode cX3_scanNumber 27 = .ok (.ifCond .eq 39, 3) := by decide +kernel
theorem dX3_scanNumber_30 : decode cX3_scanNumber 30 = .ok (.aload_n 0, 1) := by decide +kernel
theorem dX3_scanNumber_31 : decode cX3_scanNumber 31 = .ok (.aload_n 0, 1) := by decide +kernel
theorem dX3_scanNumber_32 : decode cX3_scanNumber 32 = .ok (.getfield 16, 3) := by decide +kernel
theorem dX3_scanNumber_35 : decode cX3_scanNumber 35 = .ok (.bipush 10, 2) := by decide +kernel
theorem dX3_scanNumber_37 : decode cX3_scanNumber 37 = .ok (.imul, 1) := by decide +kernel
theorem dX3_scanNumber_38 : decode cX3_scanNumber 38 = .ok (.aload_n 0, 1) := by decide +kernel
theorem dX3_scanNumber_39 : decode cX3_scanNumber 39 = .ok (.aload_n 0, 1) := by decide +kernel
theorem dX3_scanNumber_40 : decode cX3_scanNumber 40 = .ok (.getfield 19, 3) := by decide +kernel
theorem dX3_scanNumber_43 : decode cX3_scanNumber 43 = .ok (.invokevirtual 35, 3) := by decide +kernel
theorem dX3_scanNumber_46 : decode cX3_scanNumber 46 = .ok (.bipush 48, 2) := by decide +kernel
theorem dX3_scanNumber_48 : decode cX3_scanNumber 48 = .ok (.isub, 1) := by decide +kernel
theorem dX3_scanNumber_49 : decode cX3_scanNumber 49 = .ok (.iadd, 1) := by decide +kernel
theorem dX3_scanNumber_50 : decode cX3_scanNumber 50 = .ok (.putfield 16, 3) := by decide +kernel
theorem dX3_scanNumber_53 : decode cX3_scanNumber 53 = .ok (.aload_n 0, 1) := by decide +kernel
theorem dX3_scanNumber_54 : decode cX3_scanNumber 54 = .ok (.dup, 1) := by decide +kernel
theorem dX3_scanNumber_55 : decode cX3_scanNumber 55 = .ok (.getfield 19, 3) := by decide +kernel
theorem dX3_scanNumber_58 : decode cX3_scanNumber 58 = .ok (.iconst 1, 1) := by decide +kernel
theorem dX3_scanNumber_59 : decode cX3_scanNumber 59 = .ok (.iadd, 1) := by decide +kernel
theorem dX3_scanNumber_60 : decode cX3_scanNumber 60 = .ok (.putfield 19, 3) := by decide +kernel
theorem dX3_scanNumber_63 : decode cX3_scanNumber 63 = .ok (.goto (-58), 3) := by decide +kernel
theorem dX3_scanNumber_66 : decode cX3_scanNumber 66 = .ok (.aload_n 0, 1) := by decide +kernel
theorem dX3_scanNumber_67 : decode cX3_scanNumber 67 = .ok (.getfield 19, 3) := by decide +kernel
theorem dX3_scanNumber_70 : decode cX3_scanNumber 70 = .ok (.aload_n 0, 1) := by decide +kernel
theorem dX3_scanNumber_71 : decode cX3_scanNumber 71 = .ok (.getfield 13, 3) := by decide +kernel
theorem dX3_scanNumber_74 : decode cX3_scanNumber 74 = .ok (.isub, 1) := by decide +kernel
theorem dX3_scanNumber_75 : decode cX3_scanNumber 75 = .ok (.bipush 6, 2) := by decide +kernel
theorem dX3_scanNumber_77 : decode cX3_scanNumber 77 = .ok (.if_icmp .gt 21, 3) := by decide +kernel
theorem dX3_scanNumber_80 : decode cX3_scanNumber 80 = .ok (.aload_n 0, 1) := by decide +kernel
theorem dX3_scanNumber_81 : decode cX3_scanNumber 81 = .ok (.aload_n 0, 1) := by decide +kernel
theorem dX3_scanNumber_82 : decode cX3_scanNumber 82 = .ok (.getfield 19, 3) := by decide +kernel
theorem dX3_scanNumber_85 : decode cX3_scanNumber 85 = .ok (.invokevirtual 35, 3) := by decide +kernel
theorem dX3_scanNumber_88 : decode cX3_scanNumber 88 = .ok (.invokestatic 43, 3) := by decide +kernel
theorem dX3_scanNumber_91 : decode cX3_scanNumber 91 = .ok (.ifCond .ne 7, 3) := by decide +kernel
theorem dX3_scanNumber_94 : decode cX3_scanNumber 94 = .ok (.iconst 1, 1) := by decide +kernel
theorem dX3_scanNumber_95 : decode cX3_scanNumber 95 = .ok (.goto 4, 3) := by decide +kernel
theorem dX3_scanNumber_98 : decode cX3_scanNumber 98 = .ok (.iconst 0, 1) := by decide +kernel
theorem dX3_scanNumber_99 : decode cX3_scanNumber 99 = .ok (.istore_n 1, 1) := by decide +kernel
theorem dX3_scanNumber_100 : decode cX3_scanNumber 100 = .ok (.aload_n 0, 1) := by decide +kernel
theorem dX3_scanNumber_101 : decode cX3_scanNumber 101 = .ok (.iload_n 1, 1) := by decide +kernel
theorem dX3_scanNumber_102 : decode cX3_scanNumber 102 = .ok (.ifCond .eq 8, 3) := by decide +kernel
theorem dX3_scanNumber_105 : decode cX3_scanNumber 105 = .ok (.bipush 25, 2) := by decide +kernel
theorem dX3_scanNumber_107 : decode cX3_scanNumber 107 = .ok (.goto 5, 3) := by decide +kernel
theorem dX3_scanNumber_110 : decode cX3_scanNumber 110 = .ok (.bipush 28, 2) := by decide +kernel
theorem dX3_scanNumber_112 : decode cX3_scanNumber 112 = .ok (.putfield 9, 3) := by decide +kernel
theorem dX3_scanNumber_115 : decode cX3_scanNumber 115 = .ok (.return_, 1) := by decide +kernel
theorem dX3_scanSign_0 : decode cX3_scanSign 0 = .ok (.ldc 63, 2) := by decide +kernel
theorem dX3_scanSign_2 : decode cX3_scanSign 2 = .ok (.iload_n 1, 1) := by decide +kernel
theorem dX3_scanSign_3 : decode cX3_scanSign 3 = .ok (.invokevirtual 65, 3) := by decide +kernel
theorem dX3_scanSign_6 : decode cX3_scanSign 6 = .ok (.istore_n 2, 1) := by decide +kernel
theorem dX3_scanSign_7 : decode cX3_scanSign 7 = .ok (.aload_n 0, 1) := by decide +kernel
theorem dX3_scanSign_8 : decode cX3_scanSign 8 = .ok (.iload_n 2, 1) := by decide +kernel
theorem dX3_scanSign_9 : decode cX3_scanSign 9 = .ok (.ifCond .ge 8, 3) := by decide +kernel
theorem dX3_scanSign_12 : decode cX3_scanSign 12 = .ok (.bipush 28, 2) := by decide +kernel
theorem dX3_scanSign_14 : decode cX3_scanSign 14 = .ok (.goto 7, 3) := by decide +kernel
theorem dX3_scanSign_17 : decode cX3_scanSign 17 = .ok (.bipush 17, 2) := by decide +kernel
theorem dX3_scanSign_19 : decode cX3_scanSign 19 = .ok (.iload_n 2, 1) := by decide +kernel
theorem dX3_scanSign_20 : decode cX3_scanSign 20 = .ok (.iadd, 1) := by decide +kernel
theorem dX3_scanSign_21 : decode cX3_scanSign 21 = .ok (.putfield 9, 3) := by decide +kernel
theorem dX3_scanSign_24 : decode cX3_scanSign 24 = .ok (.aload_n 0, 1) := by decide +kernel
theorem dX3_scanSign_25 : decode cX3_scanSign 25 = .ok (.dup, 1) := by decide +kernel
theorem dX3_scanSign_26 : decode cX3_scanSign 26 = .ok (.getfield 19, 3) := by decide +kernel
theorem dX3_scanSign_29 : decode cX3_scanSign 29 = .ok (.iconst 1, 1) := by decide +kernel
theorem dX3_scanSign_30 : decode cX3_scanSign 30 = .ok (.iadd, 1) := by decide +kernel
theorem dX3_scanSign_31 : decode cX3_scanSign 31 = .ok (.putfield 19, 3) := by decide +kernel
theorem dX3_scanSign_34 : decode cX3_scanSign 34 = .ok (.return_, 1) := by decide +kernel
theorem dX3_wordToken_0 : decode cX3_wordToken 0 = .ok (.iconst 0, 1) := by decide +kernel
theorem dX3_wordToken_1 : decode cX3_wordToken 1 = .ok (.istore_n 1, 1) := by decide +kernel
theorem dX3_wordToken_2 : decode cX3_wordToken 2 = .ok (.iload_n 1, 1) := by decide +kernel
theorem dX3_wordToken_3 : decode cX3_wordToken 3 = .ok (.bipush 8, 2) := by decide +kernel
theorem dX3_wordToken_5 : decode cX3_wordToken 5 = .ok (.iadd, 1) := by decide +kernel
theorem dX3_wordToken_6 : decode cX3_wordToken 6 = .ok (.ldc 70, 2) := by decide +kernel
theorem dX3_wordToken_8 : decode cX3_wordToken 8 = .ok (.invokevirtual 72, 3) := by decide +kernel
theorem dX3_wordToken_11 : decode cX3_wordToken 11 = .ok (.if_icmp .gt 50, 3) := by decide +kernel
theorem dX3_wordToken_14 : decode cX3_wordToken 14 = .ok (.iconst 0, 1) := by decide +kernel
theorem dX3_wordToken_15 : decode cX3_wordToken 15 = .ok (.istore_n 2, 1) := by decide +kernel
theorem dX3_wordToken_16 : decode cX3_wordToken 16 = .ok (.iload_n 2, 1) := by decide +kernel
theorem dX3_wordToken_17 : decode cX3_wordToken 17 = .ok (.bipush 8, 2) := by decide +kernel
theorem dX3_wordToken_19 : decode cX3_wordToken 19 = .ok (.if_icmp .ge 25, 3) := by decide +kernel
theorem dX3_wordToken_22 : decode cX3_wordToken 22 = .ok (.aload_n 0, 1) := by decide +kernel
theorem dX3_wordToken_23 : decode cX3_wordToken 23 = .ok (.iload_n 2, 1) := by decide +kernel
theorem dX3_wordToken_24 : decode cX3_wordToken 24 = .ok (.invokevirtual 74, 3) := by decide +kernel
theorem dX3_wordToken_27 : decode cX3_wordToken 27 = .ok (.ldc 70, 2) := by decide +kernel
theorem dX3_wordToken_29 : decode cX3_wordToken 29 = .ok (.iload_n 1, 1) := by decide +kernel
theorem dX3_wordToken_30 : decode cX3_wordToken 30 = .ok (.iload_n 2, 1) := by decide +kernel
theorem dX3_wordToken_31 : decode cX3_wordToken 31 = .ok (.iadd, 1) := by decide +kernel
theorem dX3_wordToken_32 : decode cX3_wordToken 32 = .ok (.invokevirtual 77, 3) := by decide +kernel
theorem dX3_wordToken_35 : decode cX3_wordToken 35 = .ok (.if_icmp .ne 9, 3) := by decide +kernel
theorem dX3_wordToken_38 : decode cX3_wordToken 38 = .ok (.iinc 2 1, 3) := by decide +kernel
theorem dX3_wordToken_41 : decode cX3_wordToken 41 = .ok (.goto (-25), 3) := by decide +kernel
theorem dX3_wordToken_44 : decode cX3_wordToken 44 = .ok (.iload_n 2, 1) := by decide +kernel
theorem dX3_wordToken_45 : decode cX3_wordToken 45 = .ok (.bipush 8, 2) := by decide +kernel
theorem dX3_wordToken_47 : decode cX3_wordToken 47 = .ok (.if_icmp .ne 8, 3) := by decide +kernel
theorem dX3_wordToken_50 : decode cX3_wordToken 50 = .ok (.iload_n 1, 1) := by decide +kernel
theorem dX3_wordToken_51 : decode cX3_wordToken 51 = .ok (.bipush 8, 2) := by decide +kernel
theorem dX3_wordToken_53 : decode cX3_wordToken 53 = .ok (.idiv, 1) := by decide +kernel
theorem dX3_wordToken_54 : decode cX3_wordToken 54 = .ok (.ireturn, 1) := by decide +kernel
theorem dX3_wordToken_55 : decode cX3_wordToken 55 = .ok (.iinc 1 8, 3) := by decide +kernel
theorem dX3_wordToken_58 : decode cX3_wordToken 58 = .ok (.goto (-56), 3) := by decide +kernel
theorem dX3_wordToken_61 : decode cX3_wordToken 61 = .ok (.bipush 26, 2) := by decide +kernel
theorem dX3_wordToken_63 : decode cX3_wordToken 63 = .ok (.ireturn, 1) := by decide +kernel
theorem dX3_letterAt_0 : decode cX3_letterAt 0 = .ok (.aload_n 0, 1) := by decide +kernel
theorem dX3_letterAt_1 : decode cX3_letterAt 1 = .ok (.getfield 13, 3) := by decide +kernel
theorem dX3_letterAt_4 : decode cX3_letterAt 4 = .ok (.iload_n 1, 1) := by decide +kernel
theorem dX3_letterAt_5 : decode cX3_letterAt 5 = .ok (.iadd, 1) := by decide +kernel
theorem dX3_letterAt_6 : decode cX3_letterAt 6 = .ok (.istore_n 2, 1) := by decide +kernel
theorem dX3_letterAt_7 : decode cX3_letterAt 7 = .ok (.iload_n 2, 1) := by decide +kernel
theorem dX3_letterAt_8 : decode cX3_letterAt 8 = .ok (.ifCond .lt 28, 3) := by decide +kernel
theorem dX3_letterAt_11 : decode cX3_letterAt 11 = .ok (.iload_n 2, 1) := by decide +kernel
theorem dX3_letterAt_12 : decode cX3_letterAt 12 = .ok (.aload_n 0, 1) := by decide +kernel
theorem dX3_letterAt_13 : decode cX3_letterAt 13 = .ok (.getfield 19, 3) := by decide +kernel
theorem dX3_letterAt_16 : decode cX3_letterAt 16 = .ok (.if_icmp .ge 20, 3) := by decide +kernel
theorem dX3_letterAt_19 : decode cX3_letterAt 19 = .ok (.iload_n 2, 1) := by decide +kernel
theorem dX3_letterAt_20 : decode cX3_letterAt 20 = .ok (.aload_n 0, 1) := by decide +kernel
theorem dX3_letterAt_21 : decode cX3_letterAt 21 = .ok (.getfield 32, 3) := by decide +kernel
theorem dX3_letterAt_24 : decode cX3_letterAt 24 = .ok (.if_icmp .ge 12, 3) := by decide +kernel
theorem dX3_letterAt_27 : decode cX3_letterAt 27 = .ok (.aload_n 0, 1) := by decide +kernel
theorem dX3_letterAt_28 : decode cX3_letterAt 28 = .ok (.getfield 22, 3) := by decide +kernel
theorem dX3_letterAt_31 : decode cX3_letterAt 31 = .ok (.iload_n 2, 1) := by decide +kernel
theorem dX3_letterAt_32 : decode cX3_letterAt 32 = .ok (.baload, 1) := by decide +kernel
theorem dX3_letterAt_33 : decode cX3_letterAt 33 = .ok (.goto 5, 3) := by decide +kernel
theorem dX3_letterAt_36 : decode cX3_letterAt 36 = .ok (.bipush 32, 2) := by decide +kernel
theorem dX3_letterAt_38 : decode cX3_letterAt 38 = .ok (.ireturn, 1) := by decide +kernel
theorem dX3_byteAt_0 : decode cX3_byteAt 0 = .ok (.iload_n 1, 1) := by decide +kernel
theorem dX3_byteAt_1 : decode cX3_byteAt 1 = .ok (.ifCond .lt 24, 3) := by decide +kernel
theorem dX3_byteAt_4 : decode cX3_byteAt 4 = .ok (.iload_n 1, 1) := by decide +kernel
theorem dX3_byteAt_5 : decode cX3_byteAt 5 = .ok (.aload_n 0, 1) := by decide +kernel
theorem dX3_byteAt_6 : decode cX3_byteAt 6 = .ok (.getfield 32, 3) := by decide +kernel
theorem dX3_byteAt_9 : decode cX3_byteAt 9 = .ok (.if_icmp .ge 16, 3) := by decide +kernel
theorem dX3_byteAt_12 : decode cX3_byteAt 12 = .ok (.aload_n 0, 1) := by decide +kernel
theorem dX3_byteAt_13 : decode cX3_byteAt 13 = .ok (.getfield 22, 3) := by decide +kernel
theorem dX3_byteAt_16 : decode cX3_byteAt 16 = .ok (.iload_n 1, 1) := by decide +kernel
theorem dX3_byteAt_17 : decode cX3_byteAt 17 = .ok (.baload, 1) := by decide +kernel
theorem dX3_byteAt_18 : decode cX3_byteAt 18 = .ok (.sipush 255, 3) := by decide +kernel
theorem dX3_byteAt_21 : decode cX3_byteAt 21 = .ok (.iand, 1) := by decide +kernel
theorem dX3_byteAt_22 : decode cX3_byteAt 22 = .ok (.goto 4, 3) := by decide +kernel
theorem dX3_byteAt_25 : decode cX3_byteAt 25 = .ok (.iconst 0, 1) := by decide +kernel
theorem dX3_byteAt_26 : decode cX3_byteAt 26 = .ok (.ireturn, 1) := by decide +kernel
theorem dX3_isBlank_0 : decode cX3_isBlank 0 = .ok (.iload_n 0, 1) := by decide +kernel
theorem dX3_isBlank_1 : decode cX3_isBlank 1 = .ok (.bipush 32, 2) := by decide +kernel
theorem dX3_isBlank_3 : decode cX3_isBlank 3 = .ok (.if_icmp .eq 9, 3) := by decide +kernel
theorem dX3_isBlank_6 : decode cX3_isBlank 6 = .ok (.iload_n 0, 1) := by decide +kernel
theorem dX3_isBlank_7 : decode cX3_isBlank 7 = .ok (.bipush 10, 2) := by decide +kernel
theorem dX3_isBlank_9 : decode cX3_isBlank 9 = .ok (.if_icmp .ne 7, 3) := by decide +kernel
theorem dX3_isBlank_12 : decode cX3_isBlank 12 = .ok (.iconst 1, 1) := by decide +kernel
theorem dX3_isBlank_13 : decode cX3_isBlank 13 = .ok (.goto 4, 3) := by decide +kernel
theorem dX3_isBlank_16 : decode cX3_isBlank 16 = .ok (.iconst 0, 1) := by decide +kernel
theorem dX3_isBlank_17 : decode cX3_isBlank 17 = .ok (.ireturn, 1) := by decide +kernel
theorem dX3_isLetter_0 : decode cX3_isLetter 0 = .ok (.iload_n 0, 1) := by decide +kernel
theorem dX3_isLetter_1 : decode cX3_isLetter 1 = .ok (.bipush 97, 2) := by decide +kernel
theorem dX3_isLetter_3 : decode cX3_isLetter 3 = .ok (.if_icmp .lt 13, 3) := by decide +kernel
theorem dX3_isLetter_6 : decode cX3_isLetter 6 = .ok (.iload_n 0, 1) := by decide +kernel
theorem dX3_isLetter_7 : decode cX3_isLetter 7 = .ok (.bipush 122, 2) := by decide +kernel
theorem dX3_isLetter_9 : decode cX3_isLetter 9 = .ok (.if_icmp .gt 7, 3) := by decide +kernel
theorem dX3_isLetter_12 : decode cX3_isLetter 12 = .ok (.iconst 1, 1) := by decide +kernel
theorem dX3_isLetter_13 : decode cX3_isLetter 13 = .ok (.goto 4, 3) := by decide +kernel
theorem dX3_isLetter_16 : decode cX3_isLetter 16 = .ok (.iconst 0, 1) := by decide +kernel
theorem dX3_isLetter_17 : decode cX3_isLetter 17 = .ok (.ireturn, 1) := by decide +kernel
theorem dX3_isDigit_0 : decode cX3_isDigit 0 = .ok (.iload_n 0, 1) := by decide +kernel
theorem dX3_isDigit_1 : decode cX3_isDigit 1 = .ok (.bipush 48, 2) := by decide +kernel
theorem dX3_isDigit_3 : decode cX3_isDigit 3 = .ok (.if_icmp .lt 13, 3) := by decide +kernel
theorem dX3_isDigit_6 : decode cX3_isDigit 6 = .ok (.iload_n 0, 1) := by decide +kernel
theorem dX3_isDigit_7 : decode cX3_isDigit 7 = .ok (.bipush 57, 2) := by decide +kernel
theorem dX3_isDigit_9 : decode cX3_isDigit 9 = .ok (.if_icmp .gt 7, 3) := by decide +kernel
theorem dX3_isDigit_12 : decode cX3_isDigit 12 = .ok (.iconst 1, 1) := by decide +kernel
theorem dX3_isDigit_13 : decode cX3_isDigit 13 = .ok (.goto 4, 3) := by decide +kernel
theorem dX3_isDigit_16 : decode cX3_isDigit 16 = .ok (.iconst 0, 1) := by decide +kernel
theorem dX3_isDigit_17 : decode cX3_isDigit 17 = .ok (.ireturn, 1) := by decide +kernel
theorem dX4_init_0 : decode cX4_init 0 = .ok (.aload_n 0, 1) := by decide +kernel
theorem dX4_init_1 : decode cX4_init 1 = .ok (.invokespecial 3, 3) := by decide +kernel
theorem dX4_init_4 : decode cX4_init 4 = .ok (.aload_n 0, 1) := by decide +kernel
theorem dX4_init_5 : decode cX4_init 5 = .ok (.aload_n 1, 1) := by decide +kernel
theorem dX4_init_6 : decode cX4_init 6 = .ok (.putfield 9, 3) := by decide +kernel
theorem dX4_init_9 : decode cX4_init 9 = .ok (.aload_n 0, 1) := by decide +kernel
theorem dX4_init_10 : decode cX4_init 10 = .ok (.iload 4, 2) := by decide +kernel
theorem dX4_init_12 : decode cX4_init 12 = .ok (.putfield 15, 3) := by decide +kernel
theorem dX4_init_15 : decode cX4_init 15 = .ok (.aload_n 0, 1) := by decide +kernel
theorem dX4_init_16 : decode cX4_init 16 = .ok (.iload_n 2, 1) := by decide +kernel
theorem dX4_init_17 : decode cX4_init 17 = .ok (.putfield 19, 3) := by decide +kernel
theorem dX4_init_20 : decode cX4_init 20 = .ok (.aload_n 0, 1) := by decide +kernel
theorem dX4_init_21 : decode cX4_init 21 = .ok (.iload_n 3, 1) := by decide +kernel
theorem dX4_init_22 : decode cX4_init 22 = .ok (.putfield 22, 3) := by decide +kernel
theorem dX4_init_25 : decode cX4_init 25 = .ok (.return_, 1) := by decide +kernel
theorem dX4_comesToFair_0 : decode cX4_comesToFair 0 = .ok (.aload_n 0, 1) := by decide +kernel
theorem dX4_comesToFair_1 : decode cX4_comesToFair 1 = .ok (.getfield 19, 3) := by decide +kernel
theorem dX4_comesToFair_4 : decode cX4_comesToFair 4 = .ok (.istore_n 1, 1) := by decide +kernel
theorem dX4_comesToFair_5 : decode cX4_comesToFair 5 = .ok (.aload_n 0, 1) := by decide +kernel
theorem dX4_comesToFair_6 : decode cX4_comesToFair 6 = .ok (.getfield 22, 3) := by decide +kernel
theorem dX4_comesToFair_9 : decode cX4_comesToFair 9 = .ok (.istore_n 2, 1) := by decide +kernel
theorem dX4_comesToFair_10 : decode cX4_comesToFair 10 = .ok (.iconst 0, 1) := by decide +kernel
theorem dX4_comesToFair_11 : decode cX4_comesToFair 11 = .ok (.istore_n 3, 1) := by decide +kernel
theorem dX4_comesToFair_12 : decode cX4_comesToFair 12 = .ok (.iload_n 3, 1) := by decide +kernel
theorem dX4_comesToFair_13 : decode cX4_comesToFair 13 = .ok (.aload_n 0, 1) := by decide +kernel
theorem dX4_comesToFair_14 : decode cX4_comesToFair 14 = .ok (.getfield 15, 3) := by decide +kernel
theorem dX4_comesToFair_17 : decode cX4_comesToFair 17 = .ok (.if_icmp .ge 51, 3) := by decide +kernel
theorem dX4_comesToFair_20 : decode cX4_comesToFair 20 = .ok (.iload_n 1, 1) := by decide +kernel
theorem dX4_comesToFair_21 : decode cX4_comesToFair 21 = .ok (.aload_n 0, 1) := by decide +kernel
theorem dX4_comesToFair_22 : decode cX4_comesToFair 22 = .ok (.getfield 9, 3) := by decide +kernel
theorem dX4_comesToFair_25 : decode cX4_comesToFair 25 = .ok (.invokevirtual 25, 3) := by decide +kernel
theorem dX4_comesToFair_28 : decode cX4_comesToFair 28 = .ok (.if_icmp .ge 40, 3) := by decide +kernel
theorem dX4_comesToFair_31 : decode cX4_comesToFair 31 = .ok (.aload_n 0, 1) := by decide +kernel
theorem dX4_comesToFair_32 : decode cX4_comesToFair 32 = .ok (.iload_n 1, 1) := by decide +kernel
theorem dX4_comesToFair_33 : decode cX4_comesToFair 33 = .ok (.iload_n 2, 1) := by decide +kernel
theorem dX4_comesToFair_34 : decode cX4_comesToFair 34 = .ok (.invokevirtual 31, 3) := by decide +kernel
theorem dX4_comesToFair_37 : decode cX4_comesToFair 37 = .ok (.ifCond .eq 20, 3) := by decide +kernel
theorem dX4_comesToFair_40 : decode cX4_comesToFair 40 = .ok (.iload_n 2, 1) := by decide +kernel
theorem dX4_comesToFair_41 : decode cX4_comesToFair 41 = .ok (.aload_n 0, 1) := by decide +kernel
theorem dX4_comesToFair_42 : decode cX4_comesToFair 42 = .ok (.getfield 9, 3) := by decide +kernel
theorem dX4_comesToFair_45 : decode cX4_comesToFair 45 = .ok (.iload_n 1, 1) := by decide +kernel
theorem dX4_comesToFair_46 : decode cX4_comesToFair 46 = .ok (.invokevirtual 35, 3) := by decide +kernel
theorem dX4_comesToFair_49 : decode cX4_comesToFair 49 = .ok (.iadd, 1) := by decide +kernel
theorem dX4_comesToFair_50 : decode cX4_comesToFair 50 = .ok (.istore_n 2, 1) := by decide +kernel
theorem dX4_comesToFair_51 : decode cX4_comesToFair 51 = .ok (.iinc 1 1, 3) := by decide +kernel
theorem dX4_comesToFair_54 : decode cX4_comesToFair 54 = .ok (.goto 8, 3) := by decide +kernel
theorem dX4_comesToFair_57 : decode cX4_comesToFair 57 = .ok (.iload_n 2, 1) := by decide +kernel
theorem dX4_comesToFair_58 : decode cX4_comesToFair 58 = .ok (.invokestatic 39, 3) := by decide +kernel
theorem dX4_comesToFair_61 : decode cX4_comesToFair 61 = .ok (.istore_n 2, 1) := by decide +kernel
theorem dX4_comesToFair_62 : decode cX4_comesToFair 62 = .ok (.iinc 3 1, 3) := by decide +kernel
theorem dX4_comesToFair_65 : decode cX4_comesToFair 65 = .ok (.goto (-53), 3) := by decide +kernel
theorem dX4_comesToFair_68 : decode cX4_comesToFair 68 = .ok (.iload_n 1, 1) := by decide +kernel
theorem dX4_comesToFair_69 : decode cX4_comesToFair 69 = .ok (.aload_n 0, 1) := by decide +kernel
theorem dX4_comesToFair_70 : decode cX4_comesToFair 70 = .ok (.getfield 9, 3) := by decide +kernel
theorem dX4_comesToFair_73 : decode cX4_comesToFair 73 = .ok (.invokevirtual 25, 3) := by decide +kernel
theorem dX4_comesToFair_76 : decode cX4_comesToFair 76 = .ok (.if_icmp .ne 7, 3) := by decide +kernel
theorem dX4_comesToFair_79 : decode cX4_comesToFair 79 = .ok (.iconst 1, 1) := by decide +kernel
theorem dX4_comesToFair_80 : decode cX4_comesToFair 80 = .ok (.goto 4, 3) := by decide +kernel
theorem dX4_comesToFair_83 : decode cX4_comesToFair 83 = .ok (.iconst 0, 1) := by decide +kernel
theorem dX4_comesToFair_84 : decode cX4_comesToFair 84 = .ok (.ireturn, 1) := by decide +kernel
theorem dX4_bestGain_0 : decode cX4_bestGain 0 = .ok (.iconst 0, 1) := by decide +kernel
theorem dX4_bestGain_1 : decode cX4_bestGain 1 = .ok (.istore_n 1, 1) := by decide +kernel
theorem dX4_bestGain_2 : decode cX4_bestGain 2 = .ok (.aload_n 0, 1) := by decide +kernel
theorem dX4_bestGain_3 : decode cX4_bestGain 3 = .ok (.getfield 19, 3) := by decide +kernel
theorem dX4_bestGain_6 : decode cX4_bestGain 6 = .ok (.istore_n 2, 1) := by decide +kernel
theorem dX4_bestGain_7 : decode cX4_bestGain 7 = .ok (.iload_n 2, 1) := by decide +kernel
theorem dX4_bestGain_8 : decode cX4_bestGain 8 = .ok (.aload_n 0, 1) := by decide +kernel
theorem dX4_bestGain_9 : decode cX4_bestGain 9 = .ok (.getfield 9, 3) := by decide +kernel
theorem dX4_bestGain_12 : decode cX4_bestGain 12 = .ok (.invokevirtual 25, 3) := by decide +kernel
theorem dX4_bestGain_15 : decode cX4_bestGain 15 = .ok (.if_icmp .ge 22, 3) := by decide +kernel
theorem dX4_bestGain_18 : decode cX4_bestGain 18 = .ok (.iload_n 1, 1) := by decide +kernel
theorem dX4_bestGain_19 : decode cX4_bestGain 19 = .ok (.aload_n 0, 1) := by decide +kernel
theorem dX4_bestGain_20 : decode cX4_bestGain 20 = .ok (.getfield 9, 3) := by decide +kernel
theorem dX4_bestGain_23 : decode cX4_bestGain 23 = .ok (.iload_n 2, 1) := by decide +kernel
theorem dX4_bestGain_24 : decode cX4_bestGain 24 = .ok (.invokevirtual 35, 3) := by decide +kernel
theorem dX4_bestGain_27 : decode cX4_bestGain 27 = .ok (.iconst 5, 1) := by decide +kernel
theorem dX4_bestGain_28 : decode cX4_bestGain 28 = .ok (.idiv, 1) := by decide +kernel
theorem dX4_bestGain_29 : decode cX4_bestGain 29 = .ok (.isub, 1) := by decide +kernel
theorem dX4_bestGain_30 : decode cX4_bestGain 30 = .ok (.istore_n 1, 1) := by decide +kernel
theorem dX4_bestGain_31 : decode cX4_bestGain 31 = .ok (.iinc 2 1, 3) := by decide +kernel
theorem dX4_bestGain_34 : decode cX4_bestGain 34 = .ok (.goto (-27), 3) := by decide +kernel
theorem dX4_bestGain_37 : decode cX4_bestGain 37 = .ok (.aload_n 0, 1) := by decide +kernel
theorem dX4_bestGain_38 : decode cX4_bestGain 38 = .ok (.getfield 9, 3) := by decide +kernel
theorem dX4_bestGain_41 : decode cX4_bestGain 41 = .ok (.invokevirtual 25, 3) := by decide +kernel
theorem dX4_bestGain_44 : decode cX4_bestGain 44 = .ok (.aload_n 0, 1) := by decide +kernel
theorem dX4_bestGain_45 : decode cX4_bestGain 45 = .ok (.getfield 19, 3) := by decide +kernel
theorem dX4_bestGain_48 : decode cX4_bestGain 48 = .ok (.isub, 1) := by decide +kernel
theorem dX4_bestGain_49 : decode cX4_bestGain 49 = .ok (.istore_n 2, 1) := by decide +kernel
theorem dX4_bestGain_50 : decode cX4_bestGain 50 = .ok (.iload_n 1, 1) := by decide +kernel
theorem dX4_bestGain_51 : decode cX4_bestGain 51 = .ok (.iload_n 2, 1) := by decide +kernel
theorem dX4_bestGain_52 : decode cX4_bestGain 52 = .ok (.iconst 1, 1) := by decide +kernel
theorem dX4_bestGain_53 : decode cX4_bestGain 53 = .ok (.isub, 1) := by decide +kernel
theorem dX4_bestGain_54 : decode cX4_bestGain 54 = .ok (.iadd, 1) := by decide +kernel
theorem dX4_bestGain_55 : decode cX4_bestGain 55 = .ok (.iconst 3, 1) := by decide +kernel
theorem dX4_bestGain_56 : decode cX4_bestGain 56 = .ok (.aload_n 0, 1) := by decide +kernel
theorem dX4_bestGain_57 : decode cX4_bestGain 57 = .ok (.getfield 15, 3) := by decide +kernel
theorem dX4_bestGain_60 : decode cX4_bestGain 60 = .ok (.iload_n 2, 1) := by decide +kernel
theorem dX4_bestGain_61 : decode cX4_bestGain 61 = .ok (.isub, 1) := by decide +kernel
theorem dX4_bestGain_62 : decode cX4_bestGain 62 = .ok (.imul, 1) := by decide +kernel
theorem dX4_bestGain_63 : decode cX4_bestGain 63 = .ok (.iadd, 1) := by decide +kernel
theorem dX4_bestGain_64 : decode cX4_bestGain 64 = .ok (.ireturn, 1) := by decide +kernel
theorem dX4_bestAct_0 : decode cX4_bestAct 0 = .ok (.aload_n 0, 1) := by decide +kernel
theorem dX4_bestAct_1 : decode cX4_bestAct 1 = .ok (.getfield 19, 3) := by decide +kernel
theorem dX4_bestAct_4 : decode cX4_bestAct 4 = .ok (.istore_n 2, 1) := by decide +kernel
theorem dX4_bestAct_5 : decode cX4_bestAct 5 = .ok (.aload_n 0, 1) := by decide +kernel
theorem dX4_bestAct_6 : decode cX4_bestAct 6 = .ok (.getfield 22, 3) := by decide +kernel
theorem dX4_bestAct_9 : decode cX4_bestAct 9 = .ok (.istore_n 3, 1) := by decide +kernel
theorem dX4_bestAct_10 : decode cX4_bestAct 10 = .ok (.iconst 0, 1) := by decide +kernel
theorem dX4_bestAct_11 : decode cX4_bestAct 11 = .ok (.istore 4, 2) := by decide +kernel
theorem dX4_bestAct_13 : decode cX4_bestAct 13 = .ok (.iload 4, 2) := by decide +kernel
theorem dX4_bestAct_15 : decode cX4_bestAct 15 = .ok (.aload_n 0, 1) := by decide +kernel
theorem dX4_bestAct_16 : decode cX4_bestAct 16 = .ok (.getfield 15, 3) := by decide +kernel
theorem dX4_bestAct_19 : decode cX4_bestAct 19 = .ok (.if_icmp .ge 105, 3) := by decide +kernel
theorem dX4_bestAct_22 : decode cX4_bestAct 22 = .ok (.iload_n 2, 1) := by decide +kernel
theorem dX4_bestAct_23 : decode cX4_bestAct 23 = .ok (.iconst 1, 1) := by decide +kernel
theorem dX4_bestAct_24 : decode cX4_bestAct 24 = .ok (.iadd, 1) := by decide +kernel
theorem dX4_bestAct_25 : decode cX4_bestAct 25 = .ok (.aload_n 0, 1) := by decide +kernel
theorem dX4_bestAct_26 : decode cX4_bestAct 26 = .ok (.getfield 9, 3) := by decide +kernel
theorem dX4_bestAct_29 : decode cX4_bestAct 29 = .ok (.invokevirtual 25, 3) := by decide +kernel
theorem dX4_bestAct_32 : decode cX4_bestAct 32 = .ok (.if_icmp .ne 18, 3) := by decide +kernel
theorem dX4_bestAct_35 : decode cX4_bestAct 35 = .ok (.iload 4, 2) := by decide +kernel
theorem dX4_bestAct_37 : decode cX4_bestAct 37 = .ok (.iconst 1, 1) := by decide +kernel
theorem dX4_bestAct_38 : decode cX4_bestAct 38 = .ok (.iadd, 1) := by decide +kernel
theorem dX4_bestAct_39 : decode cX4_bestAct 39 = .ok (.aload_n 0, 1) := by decide +kernel
theorem dX4_bestAct_40 : decode cX4_bestAct 40 = .ok (.getfield 15, 3) := by decide +kernel
theorem dX4_bestAct_43 : decode cX4_bestAct 43 = .ok (.if_icmp .ge 7, 3) := by decide +kernel
theorem dX4_bestAct_46 : decode cX4_bestAct 46 = .ok (.iconst 1, 1) := by decide +kernel
theorem dX4_bestAct_47 : decode cX4_bestAct 47 = .ok (.goto 4, 3) := by decide +kernel
theorem dX4_bestAct_50 : decode cX4_bestAct 50 = .ok (.iconst 0, 1) := by decide +kernel
theorem dX4_bestAct_51 : decode cX4_bestAct 51 = .ok (.istore 5, 2) := by decide +kernel
theorem dX4_bestAct_53 : decode cX4_bestAct 53 = .ok (.aload_n 0, 1) := by decide +kernel
theorem dX4_bestAct_54 : decode cX4_bestAct 54 = .ok (.iload_n 2, 1) := by decide +kernel
theorem dX4_bestAct_55 : decode cX4_bestAct 55 = .ok (.iload_n 3, 1) := by decide +kernel
theorem dX4_bestAct_56 : decode cX4_bestAct 56 = .ok (.invokevirtual 31, 3) := by decide +kernel
theorem dX4_bestAct_59 : decode cX4_bestAct 59 = .ok (.ifCond .eq 12, 3) := by decide +kernel
theorem dX4_bestAct_62 : decode cX4_bestAct 62 = .ok (.iload 5, 2) := by decide +kernel
theorem dX4_bestAct_64 : decode cX4_bestAct 64 = .ok (.ifCond .ne 7, 3) := by decide +kernel
theorem dX4_bestAct_67 : decode cX4_bestAct 67 = .ok (.iconst 1, 1) := by decide +kernel
theorem dX4_bestAct_68 : decode cX4_bestAct 68 = .ok (.goto 4, 3) := by decide +kernel
theorem dX4_bestAct_71 : decode cX4_bestAct 71 = .ok (.iconst 0, 1) := by decide +kernel
theorem dX4_bestAct_72 : decode cX4_bestAct 72 = .ok (.istore 6, 2) := by decide +kernel
theorem dX4_bestAct_74 : decode cX4_bestAct 74 = .ok (.iload 4, 2) := by decide +kernel
theorem dX4_bestAct_76 : decode cX4_bestAct 76 = .ok (.iload_n 1, 1) := by decide +kernel
theorem dX4_bestAct_77 : decode cX4_bestAct 77 = .ok (.if_icmp .ne 14, 3) := by decide +kernel
theorem dX4_bestAct_80 : decode cX4_bestAct 80 = .ok (.iload 6, 2) := by decide +kernel
theorem dX4_bestAct_82 : decode cX4_bestAct 82 = .ok (.ifCond .eq 7, 3) := by decide +kernel
theorem dX4_bestAct_85 : decode cX4_bestAct 85 = .ok (.iconst 1, 1) := by decide +kernel
theorem dX4_bestAct_86 : decode cX4_bestAct 86 = .ok (.goto 4, 3) := by decide +kernel
theorem dX4_bestAct_89 : decode cX4_bestAct 89 = .ok (.iconst 0, 1) := by decide +kernel
theorem dX4_bestAct_90 : decode cX4_bestAct 90 = .ok (.ireturn, 1) := by decide +kernel
theorem dX4_bestAct_91 : decode cX4_bestAct 91 = .ok (.iload 6, 2) := by decide +kernel
theorem dX4_bestAct_93 : decode cX4_bestAct 93 = .ok (.ifCond .eq 20, 3) := by decide +kernel
theorem dX4_bestAct_96 : decode cX4_bestAct 96 = .ok (.iload_n 3, 1) := by decide +kernel
theorem dX4_bestAct_97 : decode cX4_bestAct 97 = .ok (.aload_n 0, 1) := by decide +kernel
theorem dX4_bestAct_98 : decode cX4_bestAct 98 = .ok (.getfield 9, 3) := by decide +kernel
theorem dX4_bestAct_101 : decode cX4_bestAct 101 = .ok (.iload_n 2, 1) := by decide +kernel
theorem dX4_bestAct_102 : decode cX4_bestAct 102 = .ok (.invokevirtual 35, 3) := by decide +kernel
theorem dX4_bestAct_105 : decode cX4_bestAct 105 = .ok (.iadd, 1) := by decide +kernel
theorem dX4_bestAct_106 : decode cX4_bestAct 106 = .ok (.istore_n 3, 1) := by decide +kernel
theorem dX4_bestAct_107 : decode cX4_bestAct 107 = .ok (.iinc 2 1, 3) := by decide +kernel
theorem dX4_bestAct_110 : decode cX4_bestAct 110 = .ok (.goto 8, 3) := by decide +kernel
theorem dX4_bestAct_113 : decode cX4_bestAct 113 = .ok (.iload_n 3, 1) := by decide +kernel
theorem dX4_bestAct_114 : decode cX4_bestAct 114 = .ok (.invokestatic 39, 3) := by decide +kernel
theorem dX4_bestAct_117 : decode cX4_bestAct 117 = .ok (.istore_n 3, 1) := by decide +kernel
theorem dX4_bestAct_118 : decode cX4_bestAct 118 = .ok (.iinc 4 1, 3) := by decide +kernel
theorem dX4_bestAct_121 : decode cX4_bestAct 121 = .ok (.goto (-108), 3) := by decide +kernel
theorem dX4_bestAct_124 : decode cX4_bestAct 124 = .ok (.iconst (-1), 1) := by decide +kernel
theorem dX4_bestAct_125 : decode cX4_bestAct 125 = .ok (.ireturn, 1) := by decide +kernel
theorem dX4_mayWalk_0 : decode cX4_mayWalk 0 = .ok (.iload_n 2, 1) := by decide +kernel
theorem dX4_mayWalk_1 : decode cX4_mayWalk 1 = .ok (.aload_n 0, 1) := by decide +kernel
theorem dX4_mayWalk_2 : decode cX4_mayWalk 2 = .ok (.getfield 9, 3) := by decide +kernel
theorem dX4_mayWalk_5 : decode cX4_mayWalk 5 = .ok (.iload_n 1, 1) := by decide +kernel
theorem dX4_mayWalk_6 : decode cX4_mayWalk 6 = .ok (.invokevirtual 35, 3) := by decide +kernel
theorem dX4_mayWalk_9 : decode cX4_mayWalk 9 = .ok (.iadd, 1) := by decide +kernel
theorem dX4_mayWalk_10 : decode cX4_mayWalk 10 = .ok (.bipush 60, 2) := by decide +kernel
theorem dX4_mayWalk_12 : decode cX4_mayWalk 12 = .ok (.if_icmp .gt 7, 3) := by decide +kernel
theorem dX4_mayWalk_15 : decode cX4_mayWalk 15 = .ok (.iconst 1, 1) := by decide +kernel
theorem dX4_mayWalk_16 : decode cX4_mayWalk 16 = .ok (.goto 4, 3) := by decide +kernel
theorem dX4_mayWalk_19 : decode cX4_mayWalk 19 = .ok (.iconst 0, 1) := by decide +kernel
theorem dX4_mayWalk_20 : decode cX4_mayWalk 20 = .ok (.ireturn, 1) := by decide +kernel
theorem dX4_rested_0 : decode cX4_rested 0 = .ok (.iconst 0, 1) := by decide +kernel
theorem dX4_rested_1 : decode cX4_rested 1 = .ok (.iload_n 0, 1) := by decide +kernel
theorem dX4_rested_2 : decode cX4_rested 2 = .ok (.bipush 15, 2) := by decide +kernel
theorem dX4_rested_4 : decode cX4_rested 4 = .ok (.isub, 1) := by decide +kernel
theorem dX4_rested_5 : decode cX4_rested 5 = .ok (.invokestatic 42, 3) := by decide +kernel
theorem dX4_rested_8 : decode cX4_rested 8 = .ok (.ireturn, 1) := by decide +kernel
theorem dX5_init_0 : decode cX5_init 0 = .ok (.aload_n 0, 1) := by decide +kernel
theorem dX5_init_1 : decode cX5_init 1 = .ok (.invokespecial 3, 3) := by decide +kernel
theorem dX5_init_4 : decode cX5_init 4 = .ok (.aload_n 0, 1) := by decide +kernel
theorem dX5_init_5 : decode cX5_init 5 = .ok (.sipush 500, 3) := by decide +kernel
theorem dX5_init_8 : decode cX5_init 8 = .ok (.newarray .int, 2) := by decide +kernel
theorem dX5_init_10 : decode cX5_init 10 = .ok (.putfield 9, 3) := by decide +kernel
theorem dX5_init_13 : decode cX5_init 13 = .ok (.aload_n 0, 1) := by decide +kernel
theorem dX5_init_14 : decode cX5_init 14 = .ok (.bipush 8, 2) := by decide +kernel
theorem dX5_init_16 : decode cX5_init 16 = .ok (.newarray .int, 2) := by decide +kernel
theorem dX5_init_18 : decode cX5_init 18 = .ok (.putfield 15, 3) := by decide +kernel
theorem dX5_init_21 : decode cX5_init 21 = .ok (.aload_n 0, 1) := by decide +kernel
theorem dX5_init_22 : decode cX5_init 22 = .ok (.bipush 8, 2) := by decide +kernel
theorem dX5_init_24 : decode cX5_init 24 = .ok (.newarray .int, 2) := by decide +kernel
theorem dX5_init_26 : decode cX5_init 26 = .ok (.putfield 18, 3) := by decide +kernel
theorem dX5_init_29 : decode cX5_init 29 = .ok (.aload_n 0, 1) := by decide +kernel
theorem dX5_init_30 : decode cX5_init 30 = .ok (.iconst 0, 1) := by decide +kernel
theorem dX5_init_31 : decode cX5_init 31 = .ok (.putfield 21, 3) := by decide +kernel
theorem dX5_init_34 : decode cX5_init 34 = .ok (.aload_n 0, 1) := by decide +kernel
theorem dX5_init_35 : decode cX5_init 35 = .ok (.iconst 0, 1) := by decide +kernel
theorem dX5_init_36 : decode cX5_init 36 = .ok (.putfield 25, 3) := by decide +kernel
theorem dX5_init_39 : decode cX5_init 39 = .ok (.return_, 1) := by decide +kernel
theorem dX5_clear_0 : decode cX5_clear 0 = .ok (.aload_n 0, 1) := by decide +kernel
theorem dX5_clear_1 : decode cX5_clear 1 = .ok (.iconst 0, 1) := by decide +kernel
theorem dX5_clear_2 : decode cX5_clear 2 = .ok (.putfield 21, 3) := by decide +kernel
theorem dX5_clear_5 : decode cX5_clear 5 = .ok (.aload_n 0, 1) := by decide +kernel
theorem dX5_clear_6 : decode cX5_clear 6 = .ok (.iconst 0, 1) := by decide +kernel
theorem dX5_clear_7 : decode cX5_clear 7 = .ok (.putfield 25, 3) := by decide +kernel
theorem dX5_clear_10 : decode cX5_clear 10 = .ok (.return_, 1) := by decide +kernel
theorem dX5_addCell_0 : decode cX5_addCell 0 = .ok (.aload_n 0, 1) := by decide +kernel
theorem dX5_addCell_1 : decode cX5_addCell 1 = .ok (.getfield 25, 3) := by decide +kernel
theorem dX5_addCell_4 : decode cX5_addCell 4 = .ok (.sipush 500, 3) := by decide +kernel
theorem dX5_addCell_7 : decode cX5_addCell 7 = .ok (.if_icmp .ge 23, 3) := by decide +kernel
theorem dX5_addCell_10 : decode cX5_addCell 10 = .ok (.aload_n 0, 1) := by decide +kernel
theorem dX5_addCell_11 : decode cX5_addCell 11 = .ok (.getfield 9, 3) := by decide +kernel
theorem dX5_addCell_14 : decode cX5_addCell 14 = .ok (.aload_n 0, 1) := by decide +kernel
theorem dX5_addCell_15 : decode cX5_addCell 15 = .ok (.getfield 25, 3) := by decide +kernel
theorem dX5_addCell_18 : decode cX5_addCell 18 = .ok (.iload_n 1, 1) := by decide +kernel
theorem dX5_addCell_19 : decode cX5_addCell 19 = .ok (.iastore, 1) := by decide +kernel
theorem dX5_addCell_20 : decode cX5_addCell 20 = .ok (.aload_n 0, 1) := by decide +kernel
theorem dX5_addCell_21 : decode cX5_addCell 21 = .ok (.dup, 1) := by decide +kernel
theorem dX5_addCell_22 : decode cX5_addCell 22 = .ok (.getfield 25, 3) := by decide +kernel
theorem dX5_addCell_25 : decode cX5_addCell 25 = .ok (.iconst 1, 1) := by decide +kernel
theorem dX5_addCell_26 : decode cX5_addCell 26 = .ok (.iadd, 1) := by decide +kernel
theorem dX5_addCell_27 : decode cX5_addCell 27 = .ok (.putfield 25, 3) := by decide +kernel
theorem dX5_addCell_30 : decode cX5_addCell 30 = .ok (.return_, 1) := by decide +kernel
theorem dX5_addLine_0 : decode cX5_addLine 0 = .ok (.aload_n 0, 1) := by decide +kernel
theorem dX5_addLine_1 : decode cX5_addLine 1 = .ok (.getfield 21, 3) := by decide +kernel
theorem dX5_addLine_4 : decode cX5_addLine 4 = .ok (.bipush 8, 2) := by decide +kernel
theorem dX5_addLine_6 : decode cX5_addLine 6 = .ok (.if_icmp .ge 36, 3) := by decide +kernel
theorem dX5_addLine_9 : decode cX5_addLine 9 = .ok (.aload_n 0, 1) := by decide +kernel
theorem dX5_addLine_10 : decode cX5_addLine 10 = .ok (.getfield 15, 3) := by decide +kernel
theorem dX5_addLine_13 : decode cX5_addLine 13 = .ok (.aload_n 0, 1) := by decide +kernel
theorem dX5_addLine_14 : decode cX5_addLine 14 = .ok (.getfield 21, 3) := by decide +kernel
theorem dX5_addLine_17 : decode cX5_addLine 17 = .ok (.aload_n 0, 1) := by decide +kernel
theorem dX5_addLine_18 : decode cX5_addLine 18 = .ok (.getfield 25, 3) := by decide +kernel
theorem dX5_addLine_21 : decode cX5_addLine 21 = .ok (.iastore, 1) := by decide +kernel
theorem dX5_addLine_22 : decode cX5_addLine 22 = .ok (.aload_n 0, 1) := by decide +kernel
theorem dX5_addLine_23 : decode cX5_addLine 23 = .ok (.getfield 18, 3) := by decide +kernel
theorem dX5_addLine_26 : decode cX5_addLine 26 = .ok (.aload_n 0, 1) := by decide +kernel
theorem dX5_addLine_27 : decode cX5_addLine 27 = .ok (.getfield 21, 3) := by decide +kernel
theorem dX5_addLine_30 : decode cX5_addLine 30 = .ok (.iload_n 1, 1) := by decide +kernel
theorem dX5_addLine_31 : decode cX5_addLine 31 = .ok (.iastore, 1) := by decide +kernel
theorem dX5_addLine_32 : decode cX5_addLine 32 = .ok (.aload_n 0, 1) := by decide +kernel
theorem dX5_addLine_33 : decode cX5_addLine 33 = .ok (.dup, 1) := by decide +kernel
theorem dX5_addLine_34 : decode cX5_addLine 34 = .ok (.getfield 21, 3) := by decide +kernel
theorem dX5_addLine_37 : decode cX5_addLine 37 = .ok (.iconst 1, 1) := by decide +kernel
theorem dX5_addLine_38 : decode cX5_addLine 38 = .ok (.iadd, 1) := by decide +kernel
theorem dX5_addLine_39 : decode cX5_addLine 39 = .ok (.putfield 21, 3) := by decide +kernel
theorem dX5_addLine_42 : decode cX5_addLine 42 = .ok (.return_, 1) := by decide +kernel
theorem dX6_init_0 : decode cX6_init 0 = .ok (.aload_n 0, 1) := by decide +kernel
theorem dX6_init_1 : decode cX6_init 1 = .ok (.invokespecial 3, 3) := by decide +kernel
theorem dX6_init_4 : decode cX6_init 4 = .ok (.aload_n 0, 1) := by decide +kernel
theorem dX6_init_5 : decode cX6_init 5 = .ok (.iconst 0, 1) := by decide +kernel
theorem dX6_init_6 : decode cX6_init 6 = .ok (.putfield 9, 3) := by decide +kernel
theorem dX6_init_9 : decode cX6_init 9 = .ok (.aload_n 0, 1) := by decide +kernel
theorem dX6_init_10 : decode cX6_init 10 = .ok (.iconst (-1), 1) := by decide +kernel
theorem dX6_init_11 : decode cX6_init 11 = .ok (.putfield 15, 3) := by decide +kernel
theorem dX6_init_14 : decode cX6_init 14 = .ok (.aload_n 0, 1) := by decide +kernel
theorem dX6_init_15 : decode cX6_init 15 = .ok (.iconst 0, 1) := by decide +kernel
theorem dX6_init_16 : decode cX6_init 16 = .ok (.putfield 18, 3) := by decide +kernel
theorem dX6_init_19 : decode cX6_init 19 = .ok (.aload_n 0, 1) := by decide +kernel
theorem dX6_init_20 : decode cX6_init 20 = .ok (.new 21, 3) := by decide +kernel
theorem dX6_init_23 : decode cX6_init 23 = .ok (.dup, 1) := by decide +kernel
theorem dX6_init_24 : decode cX6_init 24 = .ok (.aload_n 1, 1) := by decide +kernel
theorem dX6_init_25 : decode cX6_init 25 = .ok (.iload_n 2, 1) := by decide +kernel
theorem dX6_init_26 : decode cX6_init 26 = .ok (.invokespecial 23, 3) := by decide +kernel
theorem dX6_init_29 : decode cX6_init 29 = .ok (.putfield 26, 3) := by decide +kernel
theorem dX6_init_32 : decode cX6_init 32 = .ok (.aload_n 0, 1) := by decide +kernel
theorem dX6_init_33 : decode cX6_init 33 = .ok (.aload_n 3, 1) := by decide +kernel
theorem dX6_init_34 : decode cX6_init 34 = .ok (.putfield 30, 3) := by decide +kernel
theorem dX6_init_37 : decode cX6_init 37 = .ok (.return_, 1) := by decide +kernel
theorem dX6_read_0 : decode cX6_read 0 = .ok (.aload_n 0, 1) := by decide +kernel
theorem dX6_read_1 : decode cX6_read 1 = .ok (.getfield 30, 3) := by decide +kernel
theorem dX6_read_4 : decode cX6_read 4 = .ok (.invokevirtual 34, 3) := by decide +kernel
theorem dX6_read_7 : decode cX6_read 7 = .ok (.aload_n 0, 1) := by decide +kernel
theorem dX6_read_8 : decode cX6_read 8 = .ok (.getfield 26, 3) := by decide +kernel
theorem dX6_read_11 : decode cX6_read 11 = .ok (.invokevirtual 39, 3) := by decide +kernel
theorem dX6_read_14 : decode cX6_read 14 = .ok (.iconst 1, 1) := by decide +kernel
theorem dX6_read_15 : decode cX6_read 15 = .ok (.istore_n 1, 1) := by decide +kernel
theorem dX6_read_16 : decode cX6_read 16 = .ok (.iconst 0, 1) := by decide +kernel
theorem dX6_read_17 : decode cX6_read 17 = .ok (.istore_n 2, 1) := by decide +kernel
theorem dX6_read_18 : decode cX6_read 18 = .ok (.iload_n 2, 1) := by decide +kernel
theorem dX6_read_19 : decode cX6_read 19 = .ok (.bipush 8, 2) := by decide +kernel
theorem dX6_read_21 : decode cX6_read 21 = .ok (.if_icmp .ge 71, 3) := by decide +kernel
theorem dX6_read_24 : decode cX6_read 24 = .ok (.iload_n 1, 1) := by decide +kernel
theorem dX6_read_25 : decode cX6_read 25 = .ok (.ifCond .eq 67, 3) := by decide +kernel
theorem dX6_read_28 : decode cX6_read 28 = .ok (.aload_n 0, 1) := by decide +kernel
theorem dX6_read_29 : decode cX6_read 29 = .ok (.getfield 26, 3) := by decide +kernel
theorem dX6_read_32 : decode cX6_read 32 = .ok (.getfield 42, 3) := by decide +kernel
theorem dX6_read_35 : decode cX6_read 35 = .ok (.bipush 27, 2) := by decide +kernel
theorem dX6_read_37 : decode cX6_read 37 = .ok (.if_icmp .eq 55, 3) := by decide +kernel
theorem dX6_read_40 : decode cX6_read 40 = .ok (.aload_n 0, 1) := by decide +kernel
theorem dX6_read_41 : decode cX6_read 41 = .ok (.iconst 0, 1) := by decide +kernel
theorem dX6_read_42 : decode cX6_read 42 = .ok (.invokevirtual 45, 3) := by decide +kernel
theorem dX6_read_45 : decode cX6_read 45 = .ok (.ifCond .eq 39, 3) := by decide +kernel
theorem dX6_read_48 : decode cX6_read 48 = .ok (.aload_n 0, 1) := by decide +kernel
theorem dX6_read_49 : decode cX6_read 49 = .ok (.iconst 0, 1) := by decide +kernel
theorem dX6_read_50 : decode cX6_read 50 = .ok (.invokevirtual 49, 3) := by decide +kernel
theorem dX6_read_53 : decode cX6_read 53 = .ok (.ifCond .eq 31, 3) := by decide +kernel
theorem dX6_read_56 : decode cX6_read 56 = .ok (.aload_n 0, 1) := by decide +kernel
theorem dX6_read_57 : decode cX6_read 57 = .ok (.iconst 1, 1) := by decide +kernel
theorem dX6_read_58 : decode cX6_read 58 = .ok (.invokevirtual 45, 3) := by decide +kernel
theorem dX6_read_61 : decode cX6_read 61 = .ok (.ifCond .eq 23, 3) := by decide +kernel
theorem dX6_read_64 : decode cX6_read 64 = .ok (.aload_n 0, 1) := by decide +kernel
theorem dX6_read_65 : decode cX6_read 65 = .ok (.invokevirtual 52, 3) := by decide +kernel
theorem dX6_read_68 : decode cX6_read 68 = .ok (.ifCond .eq 16, 3) := by decide +kernel
theorem dX6_read_71 : decode cX6_read 71 = .ok (.aload_n 0, 1) := by decide +kernel
theorem dX6_read_72 : decode cX6_read 72 = .ok (.bipush 17, 2) := by decide +kernel
theorem dX6_read_74 : decode cX6_read 74 = .ok (.invokevirtual 45, 3) := by decide +kernel
theorem dX6_read_77 : decode cX6_read 77 = .ok (.ifCond .eq 7, 3) := by decide +kernel
theorem dX6_read_80 : decode cX6_read 80 = .ok (.iconst 1, 1) := by decide +kernel
theorem dX6_read_81 : decode cX6_read 81 = .ok (.goto 4, 3) := by decide +kernel
theorem dX6_read_84 : decode cX6_read 84 = .ok (.iconst 0, 1) := by decide +kernel
theorem dX6_read_85 : decode cX6_read 85 = .ok (.istore_n 1, 1) := by decide +kernel
theorem dX6_read_86 : decode cX6_read 86 = .ok (.iinc 2 1, 3) := by decide +kernel
theorem dX6_read_89 : decode cX6_read 89 = .ok (.goto (-71), 3) := by decide +kernel
theorem dX6_read_92 : decode cX6_read 92 = .ok (.iload_n 1, 1) := by decide +kernel
theorem dX6_read_93 : decode cX6_read 93 = .ok (.ifCond .eq 16, 3) := by decide +kernel
theorem dX6_read_96 : decode cX6_read 96 = .ok (.aload_n 0, 1) := by decide +kernel
theorem dX6_read_97 : decode cX6_read 97 = .ok (.bipush 27, 2) := by decide +kernel
theorem dX6_read_99 : decode cX6_read 99 = .ok (.invokevirtual 45, 3) := by decide +kernel
theorem dX6_read_102 : decode cX6_read 102 = .ok (.ifCond .eq 7, 3) := by decide +kernel
theorem dX6_read_105 : decode cX6_read 105 = .ok (.iconst 1, 1) := by decide +kernel
theorem dX6_read_106 : decode cX6_read 106 = .ok (.goto 4, 3) := by decide +kernel
theorem dX6_read_109 : decode cX6_read 109 = .ok (.iconst 0, 1) := by decide +kernel
theorem dX6_read_110 : decode cX6_read 110 = .ok (.ireturn, 1) := by decide +kernel
theorem dX6_readAct_0 : decode cX6_readAct 0 = .ok (.aload_n 0, 1) := by decide +kernel
theorem dX6_readAct_1 : decode cX6_readAct 1 = .ok (.getfield 26, 3) := by decide +kernel
theorem dX6_readAct_4 : decode cX6_readAct 4 = .ok (.getfield 42, 3) := by decide +kernel
theorem dX6_readAct_7 : decode cX6_readAct 7 = .ok (.iconst 2, 1) := by decide +kernel
theorem dX6_readAct_8 : decode cX6_readAct 8 = .ok (.if_icmp .ne 9, 3) := by decide +kernel
theorem dX6_readAct_11 : decode cX6_readAct 11 = .ok (.aload_n 0, 1) := by decide +kernel
theorem dX6_readAct_12 : decode cX6_readAct 12 = .ok (.iconst (-1), 1) := by decide +kernel
theorem dX6_readAct_13 : decode cX6_readAct 13 = .ok (.invokevirtual 56, 3) := by decide +kernel
theorem dX6_readAct_16 : decode cX6_readAct 16 = .ok (.ireturn, 1) := by decide +kernel
theorem dX6_readAct_17 : decode cX6_readAct 17 = .ok (.aload_n 0, 1) := by decide +kernel
theorem dX6_readAct_18 : decode cX6_readAct 18 = .ok (.getfield 26, 3) := by decide +kernel
theorem dX6_readAct_21 : decode cX6_readAct 21 = .ok (.getfield 42, 3) := by decide +kernel
theorem dX6_readAct_24 : decode cX6_readAct 24 = .ok (.iconst 3, 1) := by decide +kernel
theorem dX6_readAct_25 : decode cX6_readAct 25 = .ok (.if_icmp .ne 9, 3) := by decide +kernel
theorem dX6_readAct_28 : decode cX6_readAct 28 = .ok (.aload_n 0, 1) := by decide +kernel
theorem dX6_readAct_29 : decode cX6_readAct 29 = .ok (.iconst 0, 1) := by decide +kernel
theorem dX6_readAct_30 : decode cX6_readAct 30 = .ok (.invokevirtual 56, 3) := by decide +kernel
theorem dX6_readAct_33 : decode cX6_readAct 33 = .ok (.ireturn, 1) := by decide +kernel
theorem dX6_readAct_34 : decode cX6_readAct 34 = .ok (.aload_n 0, 1) := by decide +kernel
theorem dX6_readAct_35 : decode cX6_readAct 35 = .ok (.iconst 4, 1) := by decide +kernel
theorem dX6_readAct_36 : decode cX6_readAct 36 = .ok (.invokevirtual 45, 3) := by decide +kernel
theorem dX6_readAct_39 : decode cX6_readAct 39 = .ok (.ifCond .ne 5, 3) := by decide +kernel
theorem dX6_readAct_42 : decode cX6_readAct 42 = .ok (.iconst 0, 1) := by decide +kernel
theorem dX6_readAct_43 : decode cX6_readAct 43 = .ok (.ireturn, 1) := by decide +kernel
theorem dX6_readAct_44 : decode cX6_readAct 44 = .ok (.aload_n 0, 1) := by decide +kernel
theorem dX6_readAct_45 : decode cX6_readAct 45 = .ok (.getfield 26, 3) := by decide +kernel
theorem dX6_readAct_48 : decode cX6_readAct 48 = .ok (.getfield 42, 3) := by decide +kernel
theorem dX6_readAct_51 : decode cX6_readAct 51 = .ok (.bipush 25, 2) := by decide +kernel
theorem dX6_readAct_53 : decode cX6_readAct 53 = .ok (.if_icmp .ne 17, 3) := by decide +kernel
theorem dX6_readAct_56 : decode cX6_readAct 56 = .ok (.aload_n 0, 1) := by decide +kernel
theorem dX6_readAct_57 : decode cX6_readAct 57 = .ok (.aload_n 0, 1) := by decide +kernel
theorem dX6_readAct_58 : decode cX6_readAct 58 = .ok (.getfield 26, 3) := by decide +kernel
theorem dX6_readAct_61 : decode cX6_readAct 61 = .ok (.getfield 59, 3) := by decide +kernel
theorem dX6_readAct_64 : decode cX6_readAct 64 = .ok (.invokevirtual 56, 3) := by decide +kernel
theorem dX6_readAct_67 : decode cX6_readAct 67 = .ok (.goto 7, 3) := by decide +kernel
theorem dX6_readAct_70 : decode cX6_readAct 70 = .ok (.aload_n 0, 1) := by decide +kernel
theorem dX6_readAct_71 : decode cX6_readAct 71 = .ok (.invokevirtual 62, 3) := by decide +kernel
theorem dX6_readAct_74 : decode cX6_readAct 74 = .ok (.ireturn, 1) := by decide +kernel
theorem dX6_endLine_0 : decode cX6_endLine 0 = .ok (.aload_n 0, 1) := by decide +kernel
theorem dX6_endLine_1 : decode cX6_endLine 1 = .ok (.getfield 30, 3) := by decide +kernel
theorem dX6_endLine_4 : decode cX6_endLine 4 = .ok (.iload_n 1, 1) := by decide +kernel
theorem dX6_endLine_5 : decode cX6_endLine 5 = .ok (.invokevirtual 65, 3) := by decide +kernel
theorem dX6_endLine_8 : decode cX6_endLine 8 = .ok (.aload_n 0, 1) := by decide +kernel
theorem dX6_endLine_9 : decode cX6_endLine 9 = .ok (.getfield 26, 3) := by decide +kernel
theorem dX6_endLine_12 : decode cX6_endLine 12 = .ok (.invokevirtual 39, 3) := by decide +kernel
theorem dX6_endLine_15 : decode cX6_endLine 15 = .ok (.iconst 1, 1) := by decide +kernel
theorem dX6_endLine_16 : decode cX6_endLine 16 = .ok (.ireturn, 1) := by decide +kernel
theorem dX6_readE_0 : decode cX6_readE 0 = .ok (.aload_n 0, 1) := by decide +kernel
theorem dX6_readE_1 : decode cX6_readE 1 = .ok (.iload_n 1, 1) := by decide +kernel
theorem dX6_readE_2 : decode cX6_readE 2 = .ok (.invokevirtual 69, 3) := by decide +kernel
theorem dX6_readE_5 : decode cX6_readE 5 = .ok (.istore_n 2, 1) := by decide +kernel
theorem dX6_readE_6 : decode cX6_readE 6 = .ok (.iconst 0, 1) := by decide +kernel
theorem dX6_readE_7 : decode cX6_readE 7 = .ok (.istore_n 3, 1) := by decide +kernel
theorem dX6_readE_8 : decode cX6_readE 8 = .ok (.iload_n 3, 1) := by decide +kernel
theorem dX6_readE_9 : decode cX6_readE 9 = .ok (.sipush 500, 3) := by decide +kernel
theorem dX6_readE_12 : decode cX6_readE 12 = .ok (.if_icmp .ge 53, 3) := by decide +kernel
theorem dX6_readE_15 : decode cX6_readE 15 = .ok (.iload_n 2, 1) := by decide +kernel
theorem dX6_readE_16 : decode cX6_readE 16 = .ok (.ifCond .eq 49, 3) := by decide +kernel
theorem dX6_readE_19 : decode cX6_readE 19 = .ok (.aload_n 0, 1) := by decide +kernel
theorem dX6_readE_20 : decode cX6_readE 20 = .ok (.getfield 26, 3) := by decide +kernel
theorem dX6_readE_23 : decode cX6_readE 23 = .ok (.getfield 42, 3) := by decide +kernel
theorem dX6_readE_26 : decode cX6_readE 26 = .ok (.iconst 5, 1) := by decide +kernel
theorem dX6_readE_27 : decode cX6_readE 27 = .ok (.if_icmp .ne 38, 3) := by decide +kernel
theorem dX6_readE_30 : decode cX6_readE 30 = .ok (.aload_n 0, 1) := by decide +kernel
theorem dX6_readE_31 : decode cX6_readE 31 = .ok (.getfield 26, 3) := by decide +kernel
theorem dX6_readE_34 : decode cX6_readE 34 = .ok (.invokevirtual 39, 3) := by decide +kernel
theorem dX6_readE_37 : decode cX6_readE 37 = .ok (.aload_n 0, 1) := by decide +kernel
theorem dX6_readE_38 : decode cX6_readE 38 = .ok (.iload_n 1, 1) := by decide +kernel
theorem dX6_readE_39 : decode cX6_readE 39 = .ok (.invokevirtual 69, 3) := by decide +kernel
theorem dX6_readE_42 : decode cX6_readE 42 = .ok (.ifCond .eq 15, 3) := by decide +kernel
theorem dX6_readE_45 : decode cX6_readE 45 = .ok (.aload_n 0, 1) := by decide +kernel
theorem dX6_readE_46 : decode cX6_readE 46 = .ok (.iconst 5, 1) := by decide +kernel
theorem dX6_readE_47 : decode cX6_readE 47 = .ok (.invokevirtual 72, 3) := by decide +kernel
theorem dX6_readE_50 : decode cX6_readE 50 = .ok (.ifCond .eq 7, 3) := by decide +kernel
theorem dX6_readE_53 : decode cX6_readE 53 = .ok (.iconst 1, 1) := by decide +kernel
theorem dX6_readE_54 : decode cX6_readE 54 = .ok (.goto 4, 3) := by decide +kernel
theorem dX6_readE_57 : decode cX6_readE 57 = .ok (.iconst 0, 1) := by decide +kernel
theorem dX6_readE_58 : decode cX6_readE 58 = .ok (.istore_n 2, 1) := by decide +kernel
theorem dX6_readE_59 : decode cX6_readE 59 = .ok (.iinc 3 1, 3) := by decide +kernel
theorem dX6_readE_62 : decode cX6_readE 62 = .ok (.goto (-54), 3) := by decide +kernel
theorem dX6_readE_65 : decode cX6_readE 65 = .ok (.iload_n 2, 1) := by decide +kernel
theorem dX6_readE_66 : decode cX6_readE 66 = .ok (.ireturn, 1) := by decide +kernel
theorem dX6_readBoth_0 : decode cX6_readBoth 0 = .ok (.aload_n 0, 1) := by decide +kernel
theorem dX6_readBoth_1 : decode cX6_readBoth 1 = .ok (.iload_n 1, 1) := by decide +kernel
theorem dX6_readBoth_2 : decode cX6_readBoth 2 = .ok (.invokevirtual 75, 3) := by decide +kernel
theorem dX6_readBoth_5 : decode cX6_readBoth 5 = .ok (.istore_n 2, 1) := by decide +kernel
theorem dX6_readBoth_6 : decode cX6_readBoth 6 = .ok (.iconst 0, 1) := by decide +kernel
theorem dX6_readBoth_7 : decode cX6_readBoth 7 = .ok (.istore_n 3, 1) := by decide +kernel
theorem dX6_readBoth_8 : decode cX6_readBoth 8 = .ok (.iload_n 3, 1) := by decide +kernel
theorem dX6_readBoth_9 : decode cX6_readBoth 9 = .ok (.sipush 500, 3) := by decide +kernel
theorem dX6_readBoth_12 : decode cX6_readBoth 12 = .ok (.if_icmp .ge 55, 3) := by decide +kernel
theorem dX6_readBoth_15 : decode cX6_readBoth 15 = .ok (.iload_n 2, 1) := by decide +kernel
theorem dX6_readBoth_16 : decode cX6_readBoth 16 = .ok (.ifCond .eq 51, 3) := by decide +kernel
theorem dX6_readBoth_19 : decode cX6_readBoth 19 = .ok (.aload_n 0, 1) := by decide +kernel
theorem dX6_readBoth_20 : decode cX6_readBoth 20 = .ok (.getfield 26, 3) := by decide +kernel
theorem dX6_readBoth_23 : decode cX6_readBoth 23 = .ok (.getfield 42, 3) := by decide +kernel
theorem dX6_readBoth_26 : decode cX6_readBoth 26 = .ok (.bipush 6, 2) := by decide +kernel
theorem dX6_readBoth_28 : decode cX6_readBoth 28 = .ok (.if_icmp .ne 39, 3) := by decide +kernel
theorem dX6_readBoth_31 : decode cX6_readBoth 31 = .ok (.aload_n 0, 1) := by decide +kernel
theorem dX6_readBoth_32 : decode cX6_readBoth 32 = .ok (.getfield 26, 3) := by decide +kernel
theorem dX6_readBoth_35 : decode cX6_readBoth 35 = .ok (.invokevirtual 39, 3) := by decide +kernel
theorem dX6_readBoth_38 : decode cX6_readBoth 38 = .ok (.aload_n 0, 1) := by decide +kernel
theorem dX6_readBoth_39 : decode cX6_readBoth 39 = .ok (.iload_n 1, 1) := by decide +kernel
theorem dX6_readBoth_40 : decode cX6_readBoth 40 = .ok (.invokevirtual 75, 3) := by decide +kernel
theorem dX6_readBoth_43 : decode cX6_readBoth 43 = .ok (.ifCond .eq 16, 3) := by decide +kernel
theorem dX6_readBoth_46 : decode cX6_readBoth 46 = .ok (.aload_n 0, 1) := by decide +kernel
theorem dX6_readBoth_47 : decode cX6_readBoth 47 = .ok (.bipush 6, 2) := by decide +kernel
theorem dX6_readBoth_49 : decode cX6_readBoth 49 = .ok (.invokevirtual 72, 3) := by decide +kernel
theorem dX6_readBoth_52 : decode cX6_readBoth 52 = .ok (.ifCond .eq 7, 3) := by decide +kernel
theorem dX6_readBoth_55 : decode cX6_readBoth 55 = .ok (.iconst 1, 1) := by decide +kernel
theorem dX6_readBoth_56 : decode cX6_readBoth 56 = .ok (.goto 4, 3) := by decide +kernel
theorem dX6_readBoth_59 : decode cX6_readBoth 59 = .ok (.iconst 0, 1) := by decide +kernel
theorem dX6_readBoth_60 : decode cX6_readBoth 60 = .ok (.istore_n 2, 1) := by decide +kernel
theorem dX6_readBoth_61 : decode cX6_readBoth 61 = .ok (.iinc 3 1, 3) := by decide +kernel
theorem dX6_readBoth_64 : decode cX6_readBoth 64 = .ok (.goto (-56), 3) := by decide +kernel
theorem dX6_readBoth_67 : decode cX6_readBoth 67 = .ok (.iload_n 2, 1) := by decide +kernel
theorem dX6_readBoth_68 : decode cX6_readBoth 68 = .ok (.ireturn, 1) := by decide +kernel
theorem dX6_readOne_0 : decode cX6_readOne 0 = .ok (.iload_n 1, 1) := by decide +kernel
theorem dX6_readOne_1 : decode cX6_readOne 1 = .ok (.bipush 8, 2) := by decide +kernel
theorem dX6_readOne_3 : decode cX6_readOne 3 = .ok (.if_icmp .lt 8, 3) := by decide +kernel
theorem dX6_readOne_6 : decode cX6_readOne 6 = .ok (.aload_n 0, 1) := by decide +kernel
theorem dX6_readOne_7 : decode cX6_readOne 7 = .ok (.invokevirtual 62, 3) := by decide +kernel
theorem dX6_readOne_10 : decode cX6_readOne 10 = .ok (.ireturn, 1) := by decide +kernel
theorem dX6_readOne_11 : decode cX6_readOne 11 = .ok (.aload_n 0, 1) := by decide +kernel
theorem dX6_readOne_12 : decode cX6_readOne 12 = .ok (.getfield 26, 3) := by decide +kernel
theorem dX6_readOne_15 : decode cX6_readOne 15 = .ok (.getfield 42, 3) := by decide +kernel
theorem dX6_readOne_18 : decode cX6_readOne 18 = .ok (.bipush 7, 2) := by decide +kernel
theorem dX6_readOne_20 : decode cX6_readOne 20 = .ok (.if_icmp .ne 35, 3) := by decide +kernel
theorem dX6_readOne_23 : decode cX6_readOne 23 = .ok (.aload_n 0, 1) := by decide +kernel
theorem dX6_readOne_24 : decode cX6_readOne 24 = .ok (.getfield 26, 3) := by decide +kernel
theorem dX6_readOne_27 : decode cX6_readOne 27 = .ok (.invokevirtual 39, 3) := by decide +kernel
theorem dX6_readOne_30 : decode cX6_readOne 30 = .ok (.aload_n 0, 1) := by decide +kernel
theorem dX6_readOne_31 : decode cX6_readOne 31 = .ok (.iload_n 1, 1) := by decide +kernel
theorem dX6_readOne_32 : decode cX6_readOne 32 = .ok (.iconst 1, 1) := by decide +kernel
theorem dX6_readOne_33 : decode cX6_readOne 33 = .ok (.iadd, 1) := by decide +kernel
theorem dX6_readOne_34 : decode cX6_readOne 34 = .ok (.invokevirtual 75, 3) := by decide +kernel
theorem dX6_readOne_37 : decode cX6_readOne 37 = .ok (.ifCond .eq 16, 3) := by decide +kernel
theorem dX6_readOne_40 : decode cX6_readOne 40 = .ok (.aload_n 0, 1) := by decide +kernel
theorem dX6_readOne_41 : decode cX6_readOne 41 = .ok (.bipush 7, 2) := by decide +kernel
theorem dX6_readOne_43 : decode cX6_readOne 43 = .ok (.invokevirtual 72, 3) := by decide +kernel
theorem dX6_readOne_46 : decode cX6_readOne 46 = .ok (.ifCond .eq 7, 3) := by decide +kernel
theorem dX6_readOne_49 : decode cX6_readOne 49 = .ok (.iconst 1, 1) := by decide +kernel
theorem dX6_readOne_50 : decode cX6_readOne 50 = .ok (.goto 4, 3) := by decide +kernel
theorem dX6_readOne_53 : decode cX6_readOne 53 = .ok (.iconst 0, 1) := by decide +kernel
theorem dX6_readOne_54 : decode cX6_readOne 54 = .ok (.ireturn, 1) := by decide +kernel
theorem dX6_readOne_55 : decode cX6_readOne 55 = .ok (.aload_n 0, 1) := by decide +kernel
theorem dX6_readOne_56 : decode cX6_readOne 56 = .ok (.iload_n 1, 1) := by decide +kernel
theorem dX6_readOne_57 : decode cX6_readOne 57 = .ok (.invokevirtual 78, 3) := by decide +kernel
theorem dX6_readOne_60 : decode cX6_readOne 60 = .ok (.ifCond .ne 5, 3) := by decide +kernel
theorem dX6_readOne_63 : decode cX6_readOne 63 = .ok (.iconst 0, 1) := by decide +kernel
theorem dX6_readOne_64 : decode cX6_readOne 64 = .ok (.ireturn, 1) := by decide +kernel
theorem dX6_readOne_65 : decode cX6_readOne 65 = .ok (.aload_n 0, 1) := by decide +kernel
theorem dX6_readOne_66 : decode cX6_readOne 66 = .ok (.getfield 26, 3) := by decide +kernel
theorem dX6_readOne_69 : decode cX6_readOne 69 = .ok (.getfield 42, 3) := by decide +kernel
theorem dX6_readOne_72 : decode cX6_readOne 72 = .ok (.istore_n 2, 1) := by decide +kernel
theorem dX6_readOne_73 : decode cX6_readOne 73 = .ok (.iload_n 2, 1) := by decide +kernel
theorem dX6_readOne_74 : decode cX6_readOne 74 = .ok (.bipush 18, 2) := by decide +kernel
theorem dX6_readOne_76 : decode cX6_readOne 76 = .ok (.if_icmp .eq 17, 3) := by decide +kernel
theorem dX6_readOne_79 : decode cX6_readOne 79 = .ok (.iload_n 2, 1) := by decide +kernel
theorem dX6_readOne_80 : decode cX6_readOne 80 = .ok (.bipush 19, 2) := by decide +kernel
theorem dX6_readOne_82 : decode cX6_readOne 82 = .ok (.if_icmp .eq 11, 3) := by decide +kernel
theorem dX6_readOne_85 : decode cX6_readOne 85 = .ok (.iload_n 2, 1) := by decide +kernel
theorem dX6_readOne_86 : decode cX6_readOne 86 = .ok (.bipush 20, 2) := by decide +kernel
theorem dX6_readOne_88 : decode cX6_readOne 88 = .ok (.if_icmp .eq 5, 3) := by decide +kernel
theorem dX6_readOne_91 : decode cX6_readOne 91 = .ok (.iconst 1, 1) := by decide +kernel
theorem dX6_readOne_92 : decode cX6_readOne 92 = .ok (.ireturn, 1) := by decide +kernel
theorem dX6_readOne_93 : decode cX6_readOne 93 = .ok (.aload_n 0, 1) := by decide +kernel
theorem dX6_readOne_94 : decode cX6_readOne 94 = .ok (.getfield 26, 3) := by decide +kernel
theorem dX6_readOne_97 : decode cX6_readOne 97 = .ok (.invokevirtual 39, 3) := by decide +kernel
theorem dX6_readOne_100 : decode cX6_readOne 100 = .ok (.aload_n 0, 1) := by decide +kernel
theorem dX6_readOne_101 : decode cX6_readOne 101 = .ok (.iload_n 1, 1) := by decide +kernel
theorem dX6_readOne_102 : decode cX6_readOne 102 = .ok (.invokevirtual 78, 3) := by decide +kernel
theorem dX6_readOne_105 : decode cX6_readOne 105 = .ok (.ifCond .eq 15, 3) := by decide +kernel
theorem dX6_readOne_108 : decode cX6_readOne 108 = .ok (.aload_n 0, 1) := by decide +kernel
theorem dX6_readOne_109 : decode cX6_readOne 109 = .ok (.iload_n 2, 1) := by decide +kernel
theorem dX6_readOne_110 : decode cX6_readOne 110 = .ok (.invokevirtual 72, 3) := by decide +kernel
theorem dX6_readOne_113 : decode cX6_readOne 113 = .ok (.ifCond .eq 7, 3) := by decide +kernel
theorem dX6_readOne_116 : decode cX6_readOne 116 = .ok (.iconst 1, 1) := by decide +kernel
theorem dX6_readOne_117 : decode cX6_readOne 117 = .ok (.goto 4, 3) := by decide +kernel
theorem dX6_readOne_120 : decode cX6_readOne 120 = .ok (.iconst 0, 1) := by decide +kernel
theorem dX6_readOne_121 : decode cX6_readOne 121 = .ok (.ireturn, 1) := by decide +kernel
theorem dX6_readSum_0 : decode cX6_readSum 0 = .ok (.aload_n 0, 1) := by decide +kernel
theorem dX6_readSum_1 : decode cX6_readSum 1 = .ok (.iload_n 1, 1) := by decide +kernel
theorem dX6_readSum_2 : decode cX6_readSum 2 = .ok (.invokevirtual 81, 3) := by decide +kernel
theorem dX6_readSum_5 : decode cX6_readSum 5 = .ok (.istore_n 2, 1) := by decide +kernel
theorem dX6_readSum_6 : decode cX6_readSum 6 = .ok (.iconst 0, 1) := by decide +kernel
theorem dX6_readSum_7 : decode cX6_readSum 7 = .ok (.istore_n 3, 1) := by decide +kernel
theorem dX6_readSum_8 : decode cX6_readSum 8 = .ok (.iload_n 3, 1) := by decide +kernel
theorem dX6_readSum_9 : decode cX6_readSum 9 = .ok (.sipush 500, 3) := by decide +kernel
theorem dX6_readSum_12 : decode cX6_readSum 12 = .ok (.if_icmp .ge 68, 3) := by decide +kernel
theorem dX6_readSum_15 : decode cX6_readSum 15 = .ok (.iload_n 2, 1) := by decide +kernel
theorem dX6_readSum_16 : decode cX6_readSum 16 = .ok (.ifCond .eq 64, 3) := by decide +kernel
theorem dX6_readSum_19 : decode cX6_readSum 19 = .ok (.aload_n 0, 1) := by decide +kernel
theorem dX6_readSum_20 : decode cX6_readSum 20 = .ok (.getfield 26, 3) := by decide +kernel
theorem dX6_readSum_23 : decode cX6_readSum 23 = .ok (.getfield 42, 3) := by decide +kernel
theorem dX6_readSum_26 : decode cX6_readSum 26 = .ok (.istore 4, 2) := by decide +kernel
theorem dX6_readSum_28 : decode cX6_readSum 28 = .ok (.iload 4, 2) := by decide +kernel
theorem dX6_readSum_30 : decode cX6_readSum 30 = .ok (.bipush 21, 2) := by decide +kernel
theorem dX6_readSum_32 : decode cX6_readSum 32 = .ok (.if_icmp .eq 12, 3) := by decide +kernel
theorem dX6_readSum_35 : decode cX6_readSum 35 = .ok (.iload 4, 2) := by decide +kernel
theorem dX6_readSum_37 : decode cX6_readSum 37 = .ok (.bipush 22, 2) := by decide +kernel
theorem dX6_readSum_39 : decode cX6_readSum 39 = .ok (.if_icmp .eq 5, 3) := by decide +kernel
theorem dX6_readSum_42 : decode cX6_readSum 42 = .ok (.iconst 1, 1) := by decide +kernel
theorem dX6_readSum_43 : decode cX6_readSum 43 = .ok (.ireturn, 1) := by decide +kernel
theorem dX6_readSum_44 : decode cX6_readSum 44 = .ok (.aload_n 0, 1) := by decide +kernel
theorem dX6_readSum_45 : decode cX6_readSum 45 = .ok (.getfield 26, 3) := by decide +kernel
theorem dX6_readSum_48 : decode cX6_readSum 48 = .ok (.invokevirtual 39, 3) := by decide +kernel
theorem dX6_readSum_51 : decode cX6_readSum 51 = .ok (.aload_n 0, 1) := by decide +kernel
theorem dX6_readSum_52 : decode cX6_readSum 52 = .ok (.iload_n 1, 1) := by decide +kernel
theorem dX6_readSum_53 : decode cX6_readSum 53 = .ok (.invokevirtual 81, 3) := by decide +kernel
theorem dX6_readSum_56 : decode cX6_readSum 56 = .ok (.ifCond .eq 16, 3) := by decide +kernel
theorem dX6_readSum_59 : decode cX6_readSum 59 = .ok (.aload_n 0, 1) := by decide +kernel
theorem dX6_readSum_60 : decode cX6_readSum 60 = .ok (.iload 4, 2) := by decide +kernel
theorem dX6_readSum_62 : decode cX6_readSum 62 = .ok (.invokevirtual 72, 3) := by decide +kernel
theorem dX6_readSum_65 : decode cX6_readSum 65 = .ok (.ifCond .eq 7, 3) := by decide +kernel
theorem dX6_readSum_68 : decode cX6_readSum 68 = .ok (.iconst 1, 1) := by decide +kernel
theorem dX6_readSum_69 : decode cX6_readSum 69 = .ok (.goto 4, 3) := by decide +kernel
theorem dX6_readSum_72 : decode cX6_readSum 72 = .ok (.iconst 0, 1) := by decide +kernel
theorem dX6_readSum_73 : decode cX6_readSum 73 = .ok (.istore_n 2, 1) := by decide +kernel
theorem dX6_readSum_74 : decode cX6_readSum 74 = .ok (.iinc 3 1, 3) := by decide +kernel
theorem dX6_readSum_77 : decode cX6_readSum 77 = .ok (.goto (-69), 3) := by decide +kernel
theorem dX6_readSum_80 : decode cX6_readSum 80 = .ok (.iload_n 2, 1) := by decide +kernel
theorem dX6_readSum_81 : decode cX6_readSum 81 = .ok (.ireturn, 1) := by decide +kernel
theorem dX6_readTerm_0 : decode cX6_readTerm 0 = .ok (.aload_n 0, 1) := by decide +kernel
theorem dX6_readTerm_1 : decode cX6_readTerm 1 = .ok (.getfield 26, 3) := by decide +kernel
theorem dX6_readTerm_4 : decode cX6_readTerm 4 = .ok (.getfield 42, 3) := by decide +kernel
theorem dX6_readTerm_7 : decode cX6_readTerm 7 = .ok (.bipush 23, 2) := by decide +kernel
theorem dX6_readTerm_9 : decode cX6_readTerm 9 = .ok (.if_icmp .eq 8, 3) := by decide +kernel
theorem dX6_readTerm_12 : decode cX6_readTerm 12 = .ok (.aload_n 0, 1) := by decide +kernel
theorem dX6_readTerm_13 : decode cX6_readTerm 13 = .ok (.invokevirtual 84, 3) := by decide +kernel
theorem dX6_readTerm_16 : decode cX6_readTerm 16 = .ok (.ireturn, 1) := by decide +kernel
theorem dX6_readTerm_17 : decode cX6_readTerm 17 = .ok (.aload_n 0, 1) := by decide +kernel
theorem dX6_readTerm_18 : decode cX6_readTerm 18 = .ok (.getfield 26, 3) := by decide +kernel
theorem dX6_readTerm_21 : decode cX6_readTerm 21 = .ok (.invokevirtual 39, 3) := by decide +kernel
theorem dX6_readTerm_24 : decode cX6_readTerm 24 = .ok (.aload_n 0, 1) := by decide +kernel
theorem dX6_readTerm_25 : decode cX6_readTerm 25 = .ok (.iload_n 1, 1) := by decide +kernel
theorem dX6_readTerm_26 : decode cX6_readTerm 26 = .ok (.iconst 1, 1) := by decide +kernel
theorem dX6_readTerm_27 : decode cX6_readTerm 27 = .ok (.iadd, 1) := by decide +kernel
theorem dX6_readTerm_28 : decode cX6_readTerm 28 = .ok (.invokevirtual 49, 3) := by decide +kernel
theorem dX6_readTerm_31 : decode cX6_readTerm 31 = .ok (.ifCond .eq 16, 3) := by decide +kernel
theorem dX6_readTerm_34 : decode cX6_readTerm 34 = .ok (.aload_n 0, 1) := by decide +kernel
theorem dX6_readTerm_35 : decode cX6_readTerm 35 = .ok (.bipush 24, 2) := by decide +kernel
theorem dX6_readTerm_37 : decode cX6_readTerm 37 = .ok (.invokevirtual 45, 3) := by decide +kernel
theorem dX6_readTerm_40 : decode cX6_readTerm 40 = .ok (.ifCond .eq 7, 3) := by decide +kernel
theorem dX6_readTerm_43 : decode cX6_readTerm 43 = .ok (.iconst 1, 1) := by decide +kernel
theorem dX6_readTerm_44 : decode cX6_readTerm 44 = .ok (.goto 4, 3) := by decide +kernel
theorem dX6_readTerm_47 : decode cX6_readTerm 47 = .ok (.iconst 0, 1) := by decide +kernel
theorem dX6_readTerm_48 : decode cX6_readTerm 48 = .ok (.ireturn, 1) := by decide +kernel
theorem dX6_readOperand_0 : decode cX6_readOperand 0 = .ok (.aload_n 0, 1) := by decide +kernel
theorem dX6_readOperand_1 : decode cX6_readOperand 1 = .ok (.getfield 26, 3) := by decide +kernel
theorem dX6_readOperand_4 : decode cX6_readOperand 4 = .ok (.getfield 42, 3) := by decide +kernel
theorem dX6_readOperand_7 : decode cX6_readOperand 7 = .ok (.istore_n 1, 1) := by decide +kernel
theorem dX6_readOperand_8 : decode cX6_readOperand 8 = .ok (.iload_n 1, 1) := by decide +kernel
theorem dX6_readOperand_9 : decode cX6_readOperand 9 = .ok (.bipush 8, 2) := by decide +kernel
theorem dX6_readOperand_11 : decode cX6_readOperand 11 = .ok (.bipush 16, 2) := by decide +kernel
theorem dX6_readOperand_13 : decode cX6_readOperand 13 = .ok (.invokestatic 87, 3) := by decide +kernel
theorem dX6_readOperand_16 : decode cX6_readOperand 16 = .ok (.istore_n 2, 1) := by decide +kernel
theorem dX6_readOperand_17 : decode cX6_readOperand 17 = .ok (.iload_n 2, 1) := by decide +kernel
theorem dX6_readOperand_18 : decode cX6_readOperand 18 = .ok (.ifCond .ne 15, 3) := by decide +kernel
theorem dX6_readOperand_21 : decode cX6_readOperand 21 = .ok (.iload_n 1, 1) := by decide +kernel
theorem dX6_readOperand_22 : decode cX6_readOperand 22 = .ok (.bipush 25, 2) := by decide +kernel
theorem dX6_readOperand_24 : decode cX6_readOperand 24 = .ok (.if_icmp .eq 9, 3) := by decide +kernel
theorem dX6_readOperand_27 : decode cX6_readOperand 27 = .ok (.iload_n 1, 1) := by decide +kernel
theorem dX6_readOperand_28 : decode cX6_readOperand 28 = .ok (.bipush 26, 2) := by decide +kernel
theorem dX6_readOperand_30 : decode cX6_readOperand 30 = .ok (.if_icmp .ne 7, 3) := by decide +kernel
theorem dX6_readOperand_33 : decode cX6_readOperand 33 = .ok (.iconst 1, 1) := by decide +kernel
theorem dX6_readOperand_34 : decode cX6_readOperand 34 = .ok (.goto 4, 3) := by decide +kernel
theorem dX6_readOperand_37 : decode cX6_readOperand 37 = .ok (.iconst 0, 1) := by decide +kernel
theorem dX6_readOperand_38 : decode cX6_readOperand 38 = .ok (.istore_n 3, 1) := by decide +kernel
theorem dX6_readOperand_39 : decode cX6_readOperand 39 = .ok (.iload_n 3, 1) := by decide +kernel
theorem dX6_readOperand_40 : decode cX6_readOperand 40 = .ok (.ifCond .eq 12, 3) := by decide +kernel
theorem dX6_readOperand_43 : decode cX6_readOperand 43 = .ok (.aload_n 0, 1) := by decide +kernel
theorem dX6_readOperand_44 : decode cX6_readOperand 44 = .ok (.getfield 18, 3) := by decide +kernel
theorem dX6_readOperand_47 : decode cX6_readOperand 47 = .ok (.bipush 80, 2) := by decide +kernel
theorem dX6_readOperand_49 : decode cX6_readOperand 49 = .ok (.if_icmp .lt 8, 3) := by decide +kernel
theorem dX6_readOperand_52 : decode cX6_readOperand 52 = .ok (.aload_n 0, 1) := by decide +kernel
theorem dX6_readOperand_53 : decode cX6_readOperand 53 = .ok (.invokevirtual 62, 3) := by decide +kernel
theorem dX6_readOperand_56 : decode cX6_readOperand 56 = .ok (.ireturn, 1) := by decide +kernel
theorem dX6_readOperand_57 : decode cX6_readOperand 57 = .ok (.iload_n 1, 1) := by decide +kernel
theorem dX6_readOperand_58 : decode cX6_readOperand 58 = .ok (.bipush 26, 2) := by decide +kernel
theorem dX6_readOperand_60 : decode cX6_readOperand 60 = .ok (.if_icmp .ne 9, 3) := by decide +kernel
theorem dX6_readOperand_63 : decode cX6_readOperand 63 = .ok (.aload_n 0, 1) := by decide +kernel
theorem dX6_readOperand_64 : decode cX6_readOperand 64 = .ok (.iconst 3, 1) := by decide +kernel
theorem dX6_readOperand_65 : decode cX6_readOperand 65 = .ok (.invokevirtual 91, 3) := by decide +kernel
theorem dX6_readOperand_68 : decode cX6_readOperand 68 = .ok (.ireturn, 1) := by decide +kernel
theorem dX6_readOperand_69 : decode cX6_readOperand 69 = .ok (.aload_n 0, 1) := by decide +kernel
theorem dX6_readOperand_70 : decode cX6_readOperand 70 = .ok (.dup, 1) := by decide +kernel
theorem dX6_readOperand_71 : decode cX6_readOperand 71 = .ok (.getfield 18, 3) := by decide +kernel
theorem dX6_readOperand_74 : decode cX6_readOperand 74 = .ok (.iconst 1, 1) := by decide +kernel
theorem dX6_readOperand_75 : decode cX6_readOperand 75 = .ok (.iadd, 1) := by decide +kernel
theorem dX6_readOperand_76 : decode cX6_readOperand 76 = .ok (.putfield 18, 3) := by decide +kernel
theorem dX6_readOperand_79 : decode cX6_readOperand 79 = .ok (.aload_n 0, 1) := by decide +kernel
theorem dX6_readOperand_80 : decode cX6_readOperand 80 = .ok (.getfield 30, 3) := by decide +kernel
theorem dX6_readOperand_83 : decode cX6_readOperand 83 = .ok (.iload_n 2, 1) := by decide +kernel
theorem dX6_readOperand_84 : decode cX6_readOperand 84 = .ok (.ifCond .eq 9, 3) := by decide +kernel
theorem dX6_readOperand_87 : decode cX6_readOperand 87 = .ok (.iconst (-1), 1) := by decide +kernel
theorem dX6_readOperand_88 : decode cX6_readOperand 88 = .ok (.iload_n 1, 1) := by decide +kernel
theorem dX6_readOperand_89 : decode cX6_readOperand 89 = .ok (.isub, 1) := by decide +kernel
theorem dX6_readOperand_90 : decode cX6_readOperand 90 = .ok (.goto 10, 3) := by decide +kernel
theorem dX6_readOperand_93 : decode cX6_readOperand 93 = .ok (.aload_n 0, 1) := by decide +kernel
theorem dX6_readOperand_94 : decode cX6_readOperand 94 = .ok (.getfield 26, 3) := by decide +kernel
theorem dX6_readOperand_97 : decode cX6_readOperand 97 = .ok (.getfield 59, 3) := by decide +kernel
theorem dX6_readOperand_100 : decode cX6_readOperand 100 = .ok (.invokevirtual 94, 3) := by decide +kernel
theorem dX6_readOperand_103 : decode cX6_readOperand 103 = .ok (.aload_n 0, 1) := by decide +kernel
theorem dX6_readOperand_104 : decode cX6_readOperand 104 = .ok (.getfield 26, 3) := by decide +kernel
theorem dX6_readOperand_107 : decode cX6_readOperand 107 = .ok (.invokevirtual 39, 3) := by decide +kernel
theorem dX6_readOperand_110 : decode cX6_readOperand 110 = .ok (.iconst 1, 1) := by decide +kernel
theorem dX6_readOperand_111 : decode cX6_readOperand 111 = .ok (.ireturn, 1) := by decide +kernel
theorem dX6_take_0 : decode cX6_take 0 = .ok (.aload_n 0, 1) := by decide +kernel
theorem dX6_take_1 : decode cX6_take 1 = .ok (.getfield 26, 3) := by decide +kernel
theorem dX6_take_4 : decode cX6_take 4 = .ok (.getfield 42, 3) := by decide +kernel
theorem dX6_take_7 : decode cX6_take 7 = .ok (.iload_n 1, 1) := by decide +kernel
theorem dX6_take_8 : decode cX6_take 8 = .ok (.if_icmp .eq 8, 3) := by decide +kernel
theorem dX6_take_11 : decode cX6_take 11 = .ok (.aload_n 0, 1) := by decide +kernel
theorem dX6_take_12 : decode cX6_take 12 = .ok (.invokevirtual 62, 3) := by decide +kernel
theorem dX6_take_15 : decode cX6_take 15 = .ok (.ireturn, 1) := by decide +kernel
theorem dX6_take_16 : decode cX6_take 16 = .ok (.aload_n 0, 1) := by decide +kernel
theorem dX6_take_17 : decode cX6_take 17 = .ok (.getfield 26, 3) := by decide +kernel
theorem dX6_take_20 : decode cX6_take 20 = .ok (.invokevirtual 39, 3) := by decide +kernel
theorem dX6_take_23 : decode cX6_take 23 = .ok (.iconst 1, 1) := by decide +kernel
theorem dX6_take_24 : decode cX6_take 24 = .ok (.ireturn, 1) := by decide +kernel
theorem dX6_write_0 : decode cX6_write 0 = .ok (.aload_n 0, 1) := by decide +kernel
theorem dX6_write_1 : decode cX6_write 1 = .ok (.getfield 30, 3) := by decide +kernel
theorem dX6_write_4 : decode cX6_write 4 = .ok (.iconst (-1), 1) := by decide +kernel
theorem dX6_write_5 : decode cX6_write 5 = .ok (.iload_n 1, 1) := by decide +kernel
theorem dX6_write_6 : decode cX6_write 6 = .ok (.isub, 1) := by decide +kernel
theorem dX6_write_7 : decode cX6_write 7 = .ok (.invokevirtual 94, 3) := by decide +kernel
theorem dX6_write_10 : decode cX6_write 10 = .ok (.iconst 1, 1) := by decide +kernel
theorem dX6_write_11 : decode cX6_write 11 = .ok (.ireturn, 1) := by decide +kernel
theorem dX6_refuse_0 : decode cX6_refuse 0 = .ok (.aload_n 0, 1) := by decide +kernel
theorem dX6_refuse_1 : decode cX6_refuse 1 = .ok (.aload_n 0, 1) := by decide +kernel
theorem dX6_refuse_2 : decode cX6_refuse 2 = .ok (.getfield 26, 3) := by decide +kernel
theorem dX6_refuse_5 : decode cX6_refuse 5 = .ok (.getfield 42, 3) := by decide +kernel
theorem dX6_refuse_8 : decode cX6_refuse 8 = .ok (.bipush 28, 2) := by decide +kernel
theorem dX6_refuse_10 : decode cX6_refuse 10 = .ok (.if_icmp .ne 7, 3) := by decide +kernel
theorem dX6_refuse_13 : decode cX6_refuse 13 = .ok (.iconst 1, 1) := by decide +kernel
theorem dX6_refuse_14 : decode cX6_refuse 14 = .ok (.goto 4, 3) := by decide +kernel
theorem dX6_refuse_17 : decode cX6_refuse 17 = .ok (.iconst 2, 1) := by decide +kernel
theorem dX6_refuse_18 : decode cX6_refuse 18 = .ok (.invokevirtual 91, 3) := by decide +kernel
theorem dX6_refuse_21 : decode cX6_refuse 21 = .ok (.ireturn, 1) := by decide +kernel
theorem dX6_refuseFor_0 : decode cX6_refuseFor 0 = .ok (.aload_n 0, 1) := by decide +kernel
theorem dX6_refuseFor_1 : decode cX6_refuseFor 1 = .ok (.iload_n 1, 1) := by decide +kernel
theorem dX6_refuseFor_2 : decode cX6_refuseFor 2 = .ok (.putfield 9, 3) := by decide +kernel
theorem dX6_refuseFor_5 : decode cX6_refuseFor 5 = .ok (.aload_n 0, 1) := by decide +kernel
theorem dX6_refuseFor_6 : decode cX6_refuseFor 6 = .ok (.aload_n 0, 1) := by decide +kernel
theorem dX6_refuseFor_7 : decode cX6_refuseFor 7 = .ok (.getfield 26, 3) := by decide +kernel
theorem dX6_refuseFor_10 : decode cX6_refuseFor 10 = .ok (.getfield 97, 3) := by decide +kernel
theorem dX6_refuseFor_13 : decode cX6_refuseFor 13 = .ok (.putfield 15, 3) := by decide +kernel
theorem dX6_refuseFor_16 : decode cX6_refuseFor 16 = .ok (.iconst 0, 1) := by decide +kernel
theorem dX6_refuseFor_17 : decode cX6_refuseFor 17 = .ok (.ireturn, 1) := by decide +kernel
theorem dX7_init_0 : decode cX7_init 0 = .ok (.aload_n 0, 1) := by decide +kernel
theorem dX7_init_1 : decode cX7_init 1 = .ok (.invokespecial 3, 3) := by decide +kernel
theorem dX7_init_4 : decode cX7_init 4 = .ok (.aload_n 0, 1) := by decide +kernel
theorem dX7_init_5 : decode cX7_init 5 = .ok (.iconst 0, 1) := by decide +kernel
theorem dX7_init_6 : decode cX7_init 6 = .ok (.putfield 9, 3) := by decide +kernel
theorem dX7_init_9 : decode cX7_init 9 = .ok (.aload_n 0, 1) := by decide +kernel
theorem dX7_init_10 : decode cX7_init 10 = .ok (.bipush 60, 2) := by decide +kernel
theorem dX7_init_12 : decode cX7_init 12 = .ok (.newarray .int, 2) := by decide +kernel
theorem dX7_init_14 : decode cX7_init 14 = .ok (.putfield 15, 3) := by decide +kernel
theorem dX7_init_17 : decode cX7_init 17 = .ok (.aload_n 0, 1) := by decide +kernel
theorem dX7_init_18 : decode cX7_init 18 = .ok (.bipush 60, 2) := by decide +kernel
theorem dX7_init_20 : decode cX7_init 20 = .ok (.newarray .int, 2) := by decide +kernel
theorem dX7_init_22 : decode cX7_init 22 = .ok (.putfield 19, 3) := by decide +kernel
theorem dX7_init_25 : decode cX7_init 25 = .ok (.aload_n 0, 1) := by decide +kernel
theorem dX7_init_26 : decode cX7_init 26 = .ok (.bipush 60, 2) := by decide +kernel
theorem dX7_init_28 : decode cX7_init 28 = .ok (.newarray .int, 2) := by decide +kernel
theorem dX7_init_30 : decode cX7_init 30 = .ok (.putfield 22, 3) := by decide +kernel
theorem dX7_init_33 : decode cX7_init 33 = .ok (.aload_n 0, 1) := by decide +kernel
theorem dX7_init_34 : decode cX7_init 34 = .ok (.bipush 60, 2) := by decide +kernel
theorem dX7_init_36 : decode cX7_init 36 = .ok (.newarray .int, 2) := by decide +kernel
theorem dX7_init_38 : decode cX7_init 38 = .ok (.putfield 25, 3) := by decide +kernel
theorem dX7_init_41 : decode cX7_init 41 = .ok (.aload_n 0, 1) := by decide +kernel
theorem dX7_init_42 : decode cX7_init 42 = .ok (.bipush 60, 2) := by decide +kernel
theorem dX7_init_44 : decode cX7_init 44 = .ok (.newarray .int, 2) := by decide +kernel
theorem dX7_init_46 : decode cX7_init 46 = .ok (.putfield 28, 3) := by decide +kernel
theorem dX7_init_49 : decode cX7_init 49 = .ok (.aload_n 0, 1) := by decide +kernel
theorem dX7_init_50 : decode cX7_init 50 = .ok (.bipush 60, 2) := by decide +kernel
theorem dX7_init_52 : decode cX7_init 52 = .ok (.newarray .int, 2) := by decide +kernel
theorem dX7_init_54 : decode cX7_init 54 = .ok (.putfield 31, 3) := by decide +kernel
theorem dX7_init_57 : decode cX7_init 57 = .ok (.aload_n 0, 1) := by decide +kernel
theorem dX7_init_58 : decode cX7_init 58 = .ok (.bipush 60, 2) := by decide +kernel
theorem dX7_init_60 : decode cX7_init 60 = .ok (.newarray .int, 2) := by decide +kernel
theorem dX7_init_62 : decode cX7_init 62 = .ok (.putfield 34, 3) := by decide +kernel
theorem dX7_init_65 : decode cX7_init 65 = .ok (.return_, 1) := by decide +kernel
theorem dX7_isHand_0 : decode cX7_isHand 0 = .ok (.iload_n 0, 1) := by decide +kernel
theorem dX7_isHand_1 : decode cX7_isHand 1 = .ok (.iconst 0, 1) := by decide +kernel
theorem dX7_isHand_2 : decode cX7_isHand 2 = .ok (.bipush 9, 2) := by decide +kernel
theorem dX7_isHand_4 : decode cX7_isHand 4 = .ok (.invokestatic 37, 3) := by decide +kernel
theorem dX7_isHand_7 : decode cX7_isHand 7 = .ok (.ireturn, 1) := by decide +kernel
theorem dX7_add_0 : decode cX7_add 0 = .ok (.iload_n 2, 1) := by decide +kernel
theorem dX7_add_1 : decode cX7_add 1 = .ok (.invokestatic 41, 3) := by decide +kernel
theorem dX7_add_4 : decode cX7_add 4 = .ok (.ifCond .eq 24, 3) := by decide +kernel
theorem dX7_add_7 : decode cX7_add 7 = .ok (.iload_n 3, 1) := by decide +kernel
theorem dX7_add_8 : decode cX7_add 8 = .ok (.invokestatic 41, 3) := by decide +kernel
theorem dX7_add_11 : decode cX7_add 11 = .ok (.ifCond .eq 17, 3) := by decide +kernel
theorem dX7_add_14 : decode cX7_add 14 = .ok (.iload_n 2, 1) := by decide +kernel
theorem dX7_add_15 : decode cX7_add 15 = .ok (.iload_n 3, 1) := by decide +kernel
theorem dX7_add_16 : decode cX7_add 16 = .ok (.if_icmp .eq 12, 3) := by decide +kernel
theorem dX7_add_19 : decode cX7_add 19 = .ok (.aload_n 0, 1) := by decide +kernel
theorem dX7_add_20 : decode cX7_add 20 = .ok (.getfield 9, 3) := by decide +kernel
theorem dX7_add_23 : decode cX7_add 23 = .ok (.bipush 60, 2) := by decide +kernel
theorem dX7_add_25 : decode cX7_add 25 = .ok (.if_icmp .lt 5, 3) := by decide +kernel
theorem dX7_add_28 : decode cX7_add 28 = .ok (.iconst (-1), 1) := by decide +kernel
theorem dX7_add_29 : decode cX7_add 29 = .ok (.ireturn, 1) := by decide +kernel
theorem dX7_add_30 : decode cX7_add 30 = .ok (.aload_n 0, 1) := by decide +kernel
theorem dX7_add_31 : decode cX7_add 31 = .ok (.getfield 15, 3) := by decide +kernel
theorem dX7_add_34 : decode cX7_add 34 = .ok (.aload_n 0, 1) := by decide +kernel
theorem dX7_add_35 : decode cX7_add 35 = .ok (.getfield 9, 3) := by decide +kernel
theorem dX7_add_38 : decode cX7_add 38 = .ok (.iload_n 1, 1) := by decide +kernel
theorem dX7_add_39 : decode cX7_add 39 = .ok (.iastore, 1) := by decide +kernel
theorem dX7_add_40 : decode cX7_add 40 = .ok (.aload_n 0, 1) := by decide +kernel
theorem dX7_add_41 : decode cX7_add 41 = .ok (.getfield 19, 3) := by decide +kernel
theorem dX7_add_44 : decode cX7_add 44 = .ok (.aload_n 0, 1) := by decide +kernel
theorem dX7_add_45 : decode cX7_add 45 = .ok (.getfield 9, 3) := by decide +kernel
theorem dX7_add_48 : decode cX7_add 48 = .ok (.iload_n 2, 1) := by decide +kernel
theorem dX7_add_49 : decode cX7_add 49 = .ok (.iastore, 1) := by decide +kernel
theorem dX7_add_50 : decode cX7_add 50 = .ok (.aload_n 0, 1) := by decide +kernel
theorem dX7_add_51 : decode cX7_add 51 = .ok (.getfield 22, 3) := by decide +kernel
theorem dX7_add_54 : decode cX7_add 54 = .ok (.aload_n 0, 1) := by decide +kernel
theorem dX7_add_55 : decode cX7_add 55 = .ok (.getfield 9, 3) := by decide +kernel
theorem dX7_add_58 : decode cX7_add 58 = .ok (.iload_n 3, 1) := by decide +kernel
theorem dX7_add_59 : decode cX7_add 59 = .ok (.iastore, 1) := by decide +kernel
theorem dX7_add_60 : decode cX7_add 60 = .ok (.aload_n 0, 1) := by decide +kernel
theorem dX7_add_61 : decode cX7_add 61 = .ok (.getfield 25, 3) := by decide +kernel
theorem dX7_add_64 : decode cX7_add 64 = .ok (.aload_n 0, 1) := by decide +kernel
theorem dX7_add_65 : decode cX7_add 65 = .ok (.getfield 9, 3) := by decide +kernel
theorem dX7_add_68 : decode cX7_add 68 = .ok (.iload 4, 2) := by decide +kernel
theorem dX7_add_70 : decode cX7_add 70 = .ok (.iastore, 1) := by decide +kernel
theorem dX7_add_71 : decode cX7_add 71 = .ok (.aload_n 0, 1) := by decide +kernel
theorem dX7_add_72 : decode cX7_add 72 = .ok (.getfield 28, 3) := by decide +kernel
theorem dX7_add_75 : decode cX7_add 75 = .ok (.aload_n 0, 1) := by decide +kernel
theorem dX7_add_76 : decode cX7_add 76 = .ok (.getfield 9, 3) := by decide +kernel
theorem dX7_add_79 : decode cX7_add 79 = .ok (.iload 5, 2) := by decide +kernel
theorem dX7_add_81 : decode cX7_add 81 = .ok (.iastore, 1) := by decide +kernel
theorem dX7_add_82 : decode cX7_add 82 = .ok (.aload_n 0, 1) := by decide +kernel
theorem dX7_add_83 : decode cX7_add 83 = .ok (.getfield 31, 3) := by decide +kernel
theorem dX7_add_86 : decode cX7_add 86 = .ok (.aload_n 0, 1) := by decide +kernel
theorem dX7_add_87 : decode cX7_add 87 = .ok (.getfield 9, 3) := by decide +kernel
theorem dX7_add_90 : decode cX7_add 90 = .ok (.iconst (-1), 1) := by decide +kernel
theorem dX7_add_91 : decode cX7_add 91 = .ok (.iastore, 1) := by decide +kernel
theorem dX7_add_92 : decode cX7_add 92 = .ok (.aload_n 0, 1) := by decide +kernel
theorem dX7_add_93 : decode cX7_add 93 = .ok (.aload_n 0, 1) := by decide +kernel
theorem dX7_add_94 : decode cX7_add 94 = .ok (.getfield 9, 3) := by decide +kernel
theorem dX7_add_97 : decode cX7_add 97 = .ok (.invokevirtual 45, 3) := by decide +kernel
theorem dX7_add_100 : decode cX7_add 100 = .ok (.aload_n 0, 1) := by decide +kernel
theorem dX7_add_101 : decode cX7_add 101 = .ok (.dup, 1) := by decide +kernel
theorem dX7_add_102 : decode cX7_add 102 = .ok (.getfield 9, 3) := by decide +kernel
theorem dX7_add_105 : decode cX7_add 105 = .ok (.iconst 1, 1) := by decide +kernel
theorem dX7_add_106 : decode cX7_add 106 = .ok (.iadd, 1) := by decide +kernel
theorem dX7_add_107 : decode cX7_add 107 = .ok (.putfield 9, 3) := by decide +kernel
theorem dX7_add_110 : decode cX7_add 110 = .ok (.aload_n 0, 1) := by decide +kernel
theorem dX7_add_111 : decode cX7_add 111 = .ok (.getfield 9, 3) := by decide +kernel
theorem dX7_add_114 : decode cX7_add 114 = .ok (.iconst 1, 1) := by decide +kernel
theorem dX7_add_115 : decode cX7_add 115 = .ok (.isub, 1) := by decide +kernel
theorem dX7_add_116 : decode cX7_add 116 = .ok (.ireturn, 1) := by decide +kernel
theorem dX7_placeByDay_0 : decode cX7_placeByDay 0 = .ok (.iload_n 1, 1) := by decide +kernel
theorem dX7_placeByDay_1 : decode cX7_placeByDay 1 = .ok (.istore_n 2, 1) := by decide +kernel
theorem dX7_placeByDay_2 : decode cX7_placeByDay 2 = .ok (.iload_n 2, 1) := by decide +kernel
theorem dX7_placeByDay_3 : decode cX7_placeByDay 3 = .ok (.ifCond .le 45, 3) := by decide +kernel
theorem dX7_placeByDay_6 : decode cX7_placeByDay 6 = .ok (.aload_n 0, 1) := by decide +kernel
theorem dX7_placeByDay_7 : decode cX7_placeByDay 7 = .ok (.getfield 25, 3) := by decide +kernel
theorem dX7_placeByDay_10 : decode cX7_placeByDay 10 = .ok (.aload_n 0, 1) := by decide +kernel
theorem dX7_placeByDay_11 : decode cX7_placeByDay 11 = .ok (.getfield 34, 3) := by decide +kernel
theorem dX7_placeByDay_14 : decode cX7_placeByDay 14 = .ok (.iload_n 2, 1) := by decide +kernel
theorem dX7_placeByDay_15 : decode cX7_placeByDay 15 = .ok (.iconst 1, 1) := by decide +kernel
theorem dX7_placeByDay_16 : decode cX7_placeByDay 16 = .ok (.isub, 1) := by decide +kernel
theorem dX7_placeByDay_17 : decode cX7_placeByDay 17 = .ok (.iaload, 1) := by decide +kernel
theorem dX7_placeByDay_18 : decode cX7_placeByDay 18 = .ok (.iaload, 1) := by decide +kernel
theorem dX7_placeByDay_19 : decode cX7_placeByDay 19 = .ok (.aload_n 0, 1) := by decide +kernel
theorem dX7_placeByDay_20 : decode cX7_placeByDay 20 = .ok (.getfield 25, 3) := by decide +kernel
theorem dX7_placeByDay_23 : decode cX7_placeByDay 23 = .ok (.iload_n 1, 1) := by decide +kernel
theorem dX7_placeByDay_24 : decode cX7_placeByDay 24 = .ok (.iaload, 1) := by decide +kernel
theorem dX7_placeByDay_25 : decode cX7_placeByDay 25 = .ok (.if_icmp .le 23, 3) := by decide +kernel
theorem dX7_placeByDay_28 : decode cX7_placeByDay 28 = .ok (.aload_n 0, 1) := by decide +kernel
theorem dX7_placeByDay_29 : decode cX7_placeByDay 29 = .ok (.getfield 34, 3) := by decide +kernel
theorem dX7_placeByDay_32 : decode cX7_placeByDay 32 = .ok (.iload_n 2, 1) := by decide +kernel
theorem dX7_placeByDay_33 : decode cX7_placeByDay 33 = .ok (.aload_n 0, 1) := by decide +kernel
theorem dX7_placeByDay_34 : decode cX7_placeByDay 34 = .ok (.getfield 34, 3) := by decide +kernel
theorem dX7_placeByDay_37 : decode cX7_placeByDay 37 = .ok (.iload_n 2, 1) := by decide +kernel
theorem dX7_placeByDay_38 : decode cX7_placeByDay 38 = .ok (.iconst 1, 1) := by decide +kernel
theorem dX7_placeByDay_39 : decode cX7_placeByDay 39 = .ok (.isub, 1) := by decide +kernel
theorem dX7_placeByDay_40 : decode cX7_placeByDay 40 = .ok (.iaload, 1) := by decide +kernel
theorem dX7_placeByDay_41 : decode cX7_placeByDay 41 = .ok (.iastore, 1) := by decide +kernel
theorem dX7_placeByDay_42 : decode cX7_placeByDay 42 = .ok (.iinc 2 (-1), 3) := by decide +kernel
theorem dX7_placeByDay_45 : decode cX7_placeByDay 45 = .ok (.goto (-43), 3) := by decide +kernel
theorem dX7_placeByDay_48 : decode cX7_placeByDay 48 = .ok (.aload_n 0, 1) := by decide +kernel
theorem dX7_placeByDay_49 : decode cX7_placeByDay 49 = .ok (.getfield 34, 3) := by decide +kernel
theorem dX7_placeByDay_52 : decode cX7_placeByDay 52 = .ok (.iload_n 2, 1) := by decide +kernel
theorem dX7_placeByDay_53 : decode cX7_placeByDay 53 = .ok (.iload_n 1, 1) := by decide +kernel
theorem dX7_placeByDay_54 : decode cX7_placeByDay 54 = .ok (.iastore, 1) := by decide +kernel
theorem dX7_placeByDay_55 : decode cX7_placeByDay 55 = .ok (.return_, 1) := by decide +kernel
theorem dX7_takeBack_0 : decode cX7_takeBack 0 = .ok (.iload_n 1, 1) := by decide +kernel
theorem dX7_takeBack_1 : decode cX7_takeBack 1 = .ok (.ifCond .lt 21, 3) := by decide +kernel
theorem dX7_takeBack_4 : decode cX7_takeBack 4 = .ok (.iload_n 1, 1) := by decide +kernel
theorem dX7_takeBack_5 : decode cX7_takeBack 5 = .ok (.aload_n 0, 1) := by decide +kernel
theorem dX7_takeBack_6 : decode cX7_takeBack 6 = .ok (.getfield 9, 3) := by decide +kernel
theorem dX7_takeBack_9 : decode cX7_takeBack 9 = .ok (.if_icmp .ge 13, 3) := by decide +kernel
theorem dX7_takeBack_12 : decode cX7_takeBack 12 = .ok (.aload_n 0, 1) := by decide +kernel
theorem dX7_takeBack_13 : decode cX7_takeBack 13 = .ok (.getfield 31, 3) := by decide +kernel
theorem dX7_takeBack_16 : decode cX7_takeBack 16 = .ok (.iload_n 1, 1) := by decide +kernel
theorem dX7_takeBack_17 : decode cX7_takeBack 17 = .ok (.iaload, 1) := by decide +kernel
theorem dX7_takeBack_18 : decode cX7_takeBack 18 = .ok (.iconst (-1), 1) := by decide +kernel
theorem dX7_takeBack_19 : decode cX7_takeBack 19 = .ok (.if_icmp .eq 5, 3) := by decide +kernel
theorem dX7_takeBack_22 : decode cX7_takeBack 22 = .ok (.iconst 0, 1) := by decide +kernel
theorem dX7_takeBack_23 : decode cX7_takeBack 23 = .ok (.ireturn, 1) := by decide +kernel
theorem dX7_takeBack_24 : decode cX7_takeBack 24 = .ok (.aload_n 0, 1) := by decide +kernel
theorem dX7_takeBack_25 : decode cX7_takeBack 25 = .ok (.getfield 31, 3) := by decide +kernel
theorem dX7_takeBack_28 : decode cX7_takeBack 28 = .ok (.iload_n 1, 1) := by decide +kernel
theorem dX7_takeBack_29 : decode cX7_takeBack 29 = .ok (.iload_n 2, 1) := by decide +kernel
theorem dX7_takeBack_30 : decode cX7_takeBack 30 = .ok (.iastore, 1) := by decide +kernel
theorem dX7_takeBack_31 : decode cX7_takeBack 31 = .ok (.iconst 1, 1) := by decide +kernel
theorem dX7_takeBack_32 : decode cX7_takeBack 32 = .ok (.ireturn, 1) := by decide +kernel
theorem dX7_follow_0 : decode cX7_follow 0 = .ok (.iload_n 2, 1) := by decide +kernel
theorem dX7_follow_1 : decode cX7_follow 1 = .ok (.istore 5, 2) := by decide +kernel
theorem dX7_follow_3 : decode cX7_follow 3 = .ok (.iconst 0, 1) := by decide +kernel
theorem dX7_follow_4 : decode cX7_follow 4 = .ok (.istore 6, 2) := by decide +kernel
theorem dX7_follow_6 : decode cX7_follow 6 = .ok (.iload 6, 2) := by decide +kernel
theorem dX7_follow_8 : decode cX7_follow 8 = .ok (.aload_n 0, 1) := by decide +kernel
theorem dX7_follow_9 : decode cX7_follow 9 = .ok (.getfield 9, 3) := by decide +kernel
theorem dX7_follow_12 : decode cX7_follow 12 = .ok (.if_icmp .ge 84, 3) := by decide +kernel
theorem dX7_follow_15 : decode cX7_follow 15 = .ok (.aload_n 0, 1) := by decide +kernel
theorem dX7_follow_16 : decode cX7_follow 16 = .ok (.getfield 34, 3) := by decide +kernel
theorem dX7_follow_19 : decode cX7_follow 19 = .ok (.iload 6, 2) := by decide +kernel
theorem dX7_follow_21 : decode cX7_follow 21 = .ok (.iaload, 1) := by decide +kernel
theorem dX7_follow_22 : decode cX7_follow 22 = .ok (.istore 7, 2) := by decide +kernel
theorem dX7_follow_24 : decode cX7_follow 24 = .ok (.aload_n 0, 1) := by decide +kernel
theorem dX7_follow_25 : decode cX7_follow 25 = .ok (.getfield 15, 3) := by decide +kernel
theorem dX7_follow_28 : decode cX7_follow 28 = .ok (.iload 7, 2) := by decide +kernel
theorem dX7_follow_30 : decode cX7_follow 30 = .ok (.iaload, 1) := by decide +kernel
theorem dX7_follow_31 : decode cX7_follow 31 = .ok (.iload_n 1, 1) := by decide +kernel
theorem dX7_follow_32 : decode cX7_follow 32 = .ok (.if_icmp .ne 18, 3) := by decide +kernel
theorem dX7_follow_35 : decode cX7_follow 35 = .ok (.aload_n 0, 1) := by decide +kernel
theorem dX7_follow_36 : decode cX7_follow 36 = .ok (.getfield 25, 3) := by decide +kernel
theorem dX7_follow_39 : decode cX7_follow 39 = .ok (.iload 7, 2) := by decide +kernel
theorem dX7_follow_41 : decode cX7_follow 41 = .ok (.iaload, 1) := by decide +kernel
theorem dX7_follow_42 : decode cX7_follow 42 = .ok (.iload_n 3, 1) := by decide +kernel
theorem dX7_follow_43 : decode cX7_follow 43 = .ok (.if_icmp .gt 7, 3) := by decide +kernel
theorem dX7_follow_46 : decode cX7_follow 46 = .ok (.iconst 1, 1) := by decide +kernel
theorem dX7_follow_47 : decode cX7_follow 47 = .ok (.goto 4, 3) := by decide +kernel
theorem dX7_follow_50 : decode cX7_follow 50 = .ok (.iconst 0, 1) := by decide +kernel
theorem dX7_follow_51 : decode cX7_follow 51 = .ok (.istore 8, 2) := by decide +kernel
theorem dX7_follow_53 : decode cX7_follow 53 = .ok (.iload 8, 2) := by decide +kernel
theorem dX7_follow_55 : decode cX7_follow 55 = .ok (.ifCond .eq 35, 3) := by decide +kernel
theorem dX7_follow_58 : decode cX7_follow 58 = .ok (.aload_n 0, 1) := by decide +kernel
theorem dX7_follow_59 : decode cX7_follow 59 = .ok (.iload 7, 2) := by decide +kernel
theorem dX7_follow_61 : decode cX7_follow 61 = .ok (.iload 4, 2) := by decide +kernel
theorem dX7_follow_63 : decode cX7_follow 63 = .ok (.invokevirtual 49, 3) := by decide +kernel
theorem dX7_follow_66 : decode cX7_follow 66 = .ok (.ifCond .eq 24, 3) := by decide +kernel
theorem dX7_follow_69 : decode cX7_follow 69 = .ok (.aload_n 0, 1) := by decide +kernel
theorem dX7_follow_70 : decode cX7_follow 70 = .ok (.getfield 19, 3) := by decide +kernel
theorem dX7_follow_73 : decode cX7_follow 73 = .ok (.iload 7, 2) := by decide +kernel
theorem dX7_follow_75 : decode cX7_follow 75 = .ok (.iaload, 1) := by decide +kernel
theorem dX7_follow_76 : decode cX7_follow 76 = .ok (.iload 5, 2) := by decide +kernel
theorem dX7_follow_78 : decode cX7_follow 78 = .ok (.if_icmp .ne 12, 3) := by decide +kernel
theorem dX7_follow_81 : decode cX7_follow 81 = .ok (.aload_n 0, 1) := by decide +kernel
theorem dX7_follow_82 : decode cX7_follow 82 = .ok (.getfield 22, 3) := by decide +kernel
theorem dX7_follow_85 : decode cX7_follow 85 = .ok (.iload 7, 2) := by decide +kernel
theorem dX7_follow_87 : decode cX7_follow 87 = .ok (.iaload, 1) := by decide +kernel
theorem dX7_follow_88 : decode cX7_follow 88 = .ok (.istore 5, 2) := by decide +kernel
theorem dX7_follow_90 : decode cX7_follow 90 = .ok (.iinc 6 1, 3) := by decide +kernel
theorem dX7_follow_93 : decode cX7_follow 93 = .ok (.goto (-87), 3) := by decide +kernel
theorem dX7_follow_96 : decode cX7_follow 96 = .ok (.iload 5, 2) := by decide +kernel
theorem dX7_follow_98 : decode cX7_follow 98 = .ok (.ireturn, 1) := by decide +kernel
theorem dX7_isKnown_0 : decode cX7_isKnown 0 = .ok (.aload_n 0, 1) := by decide +kernel
theorem dX7_isKnown_1 : decode cX7_isKnown 1 = .ok (.getfield 31, 3) := by decide +kernel
theorem dX7_isKnown_4 : decode cX7_isKnown 4 = .ok (.iload_n 1, 1) := by decide +kernel
theorem dX7_isKnown_5 : decode cX7_isKnown 5 = .ok (.iaload, 1) := by decide +kernel
theorem dX7_isKnown_6 : decode cX7_isKnown 6 = .ok (.iconst (-1), 1) := by decide +kernel
theorem dX7_isKnown_7 : decode cX7_isKnown 7 = .ok (.if_icmp .eq 17, 3) := by decide +kernel
theorem dX7_isKnown_10 : decode cX7_isKnown 10 = .ok (.aload_n 0, 1) := by decide +kernel
theorem dX7_isKnown_11 : decode cX7_isKnown 11 = .ok (.getfield 31, 3) := by decide +kernel
theorem dX7_isKnown_14 : decode cX7_isKnown 14 = .ok (.iload_n 1, 1) := by decide +kernel
theorem dX7_isKnown_15 : decode cX7_isKnown 15 = .ok (.iaload, 1) := by decide +kernel
theorem dX7_isKnown_16 : decode cX7_isKnown 16 = .ok (.iload_n 2, 1) := by decide +kernel
theorem dX7_isKnown_17 : decode cX7_isKnown 17 = .ok (.if_icmp .gt 7, 3) := by decide +kernel
theorem dX7_isKnown_20 : decode cX7_isKnown 20 = .ok (.iconst 1, 1) := by decide +kernel
theorem dX7_isKnown_21 : decode cX7_isKnown 21 = .ok (.goto 4, 3) := by decide +kernel
theorem dX7_isKnown_24 : decode cX7_isKnown 24 = .ok (.iconst 0, 1) := by decide +kernel
theorem dX7_isKnown_25 : decode cX7_isKnown 25 = .ok (.istore_n 3, 1) := by decide +kernel
theorem dX7_isKnown_26 : decode cX7_isKnown 26 = .ok (.aload_n 0, 1) := by decide +kernel
theorem dX7_isKnown_27 : decode cX7_isKnown 27 = .ok (.getfield 28, 3) := by decide +kernel
theorem dX7_isKnown_30 : decode cX7_isKnown 30 = .ok (.iload_n 1, 1) := by decide +kernel
theorem dX7_isKnown_31 : decode cX7_isKnown 31 = .ok (.iaload, 1) := by decide +kernel
theorem dX7_isKnown_32 : decode cX7_isKnown 32 = .ok (.iload_n 2, 1) := by decide +kernel
theorem dX7_isKnown_33 : decode cX7_isKnown 33 = .ok (.if_icmp .gt 11, 3) := by decide +kernel
theorem dX7_isKnown_36 : decode cX7_isKnown 36 = .ok (.iload_n 3, 1) := by decide +kernel
theorem dX7_isKnown_37 : decode cX7_isKnown 37 = .ok (.ifCond .ne 7, 3) := by decide +kernel
theorem dX7_isKnown_40 : decode cX7_isKnown 40 = .ok (.iconst 1, 1) := by decide +kernel
theorem dX7_isKnown_41 : decode cX7_isKnown 41 = .ok (.goto 4, 3) := by decide +kernel
theorem dX7_isKnown_44 : decode cX7_isKnown 44 = .ok (.iconst 0, 1) := by decide +kernel
theorem dX7_isKnown_45 : decode cX7_isKnown 45 = .ok (.ireturn, 1) := by decide +kernel
theorem dX8_init_0 : decode cX8_init 0 = .ok (.aload_n 0, 1) := by decide +kernel
theorem dX8_init_1 : decode cX8_init 1 = .ok (.invokespecial 3, 3) := by decide +kernel
theorem dX8_init_4 : decode cX8_init 4 = .ok (.aload_n 0, 1) := by decide +kernel
theorem dX8_init_5 : decode cX8_init 5 = .ok (.bipush 9, 2) := by decide +kernel
theorem dX8_init_7 : decode cX8_init 7 = .ok (.newarray .int, 2) := by decide +kernel
theorem dX8_init_9 : decode cX8_init 9 = .ok (.putfield 11, 3) := by decide +kernel
theorem dX8_init_12 : decode cX8_init 12 = .ok (.aload_n 0, 1) := by decide +kernel
theorem dX8_init_13 : decode cX8_init 13 = .ok (.bipush 80, 2) := by decide +kernel
theorem dX8_init_15 : decode cX8_init 15 = .ok (.newarray .int, 2) := by decide +kernel
theorem dX8_init_17 : decode cX8_init 17 = .ok (.putfield 19, 3) := by decide +kernel
theorem dX8_init_20 : decode cX8_init 20 = .ok (.aload_n 0, 1) := by decide +kernel
theorem dX8_init_21 : decode cX8_init 21 = .ok (.iconst 0, 1) := by decide +kernel
theorem dX8_init_22 : decode cX8_init 22 = .ok (.putfield 22, 3) := by decide +kernel
theorem dX8_init_25 : decode cX8_init 25 = .ok (.return_, 1) := by decide +kernel
theorem dX8_learn_0 : decode cX8_learn 0 = .ok (.aload_n 0, 1) := by decide +kernel
theorem dX8_learn_1 : decode cX8_learn 1 = .ok (.getfield 11, 3) := by decide +kernel
theorem dX8_learn_4 : decode cX8_learn 4 = .ok (.iconst 0, 1) := by decide +kernel
theorem dX8_learn_5 : decode cX8_learn 5 = .ok (.iload_n 3, 1) := by decide +kernel
theorem dX8_learn_6 : decode cX8_learn 6 = .ok (.iastore, 1) := by decide +kernel
theorem dX8_learn_7 : decode cX8_learn 7 = .ok (.aload_n 0, 1) := by decide +kernel
theorem dX8_learn_8 : decode cX8_learn 8 = .ok (.getfield 11, 3) := by decide +kernel
theorem dX8_learn_11 : decode cX8_learn 11 = .ok (.iconst 1, 1) := by decide +kernel
theorem dX8_learn_12 : decode cX8_learn 12 = .ok (.aload_n 1, 1) := by decide +kernel
theorem dX8_learn_13 : decode cX8_learn 13 = .ok (.getfield 26, 3) := by decide +kernel
theorem dX8_learn_16 : decode cX8_learn 16 = .ok (.iastore, 1) := by decide +kernel
theorem dX8_learn_17 : decode cX8_learn 17 = .ok (.aload_n 0, 1) := by decide +kernel
theorem dX8_learn_18 : decode cX8_learn 18 = .ok (.getfield 11, 3) := by decide +kernel
theorem dX8_learn_21 : decode cX8_learn 21 = .ok (.iconst 2, 1) := by decide +kernel
theorem dX8_learn_22 : decode cX8_learn 22 = .ok (.aload_n 1, 1) := by decide +kernel
theorem dX8_learn_23 : decode cX8_learn 23 = .ok (.getfield 31, 3) := by decide +kernel
theorem dX8_learn_26 : decode cX8_learn 26 = .ok (.iastore, 1) := by decide +kernel
theorem dX8_learn_27 : decode cX8_learn 27 = .ok (.aload_n 0, 1) := by decide +kernel
theorem dX8_learn_28 : decode cX8_learn 28 = .ok (.getfield 11, 3) := by decide +kernel
theorem dX8_learn_31 : decode cX8_learn 31 = .ok (.iconst 3, 1) := by decide +kernel
theorem dX8_learn_32 : decode cX8_learn 32 = .ok (.aload_n 1, 1) := by decide +kernel
theorem dX8_learn_33 : decode cX8_learn 33 = .ok (.getfield 34, 3) := by decide +kernel
theorem dX8_learn_36 : decode cX8_learn 36 = .ok (.iastore, 1) := by decide +kernel
theorem dX8_learn_37 : decode cX8_learn 37 = .ok (.aload_n 0, 1) := by decide +kernel
theorem dX8_learn_38 : decode cX8_learn 38 = .ok (.getfield 11, 3) := by decide +kernel
theorem dX8_learn_41 : decode cX8_learn 41 = .ok (.iconst 4, 1) := by decide +kernel
theorem dX8_learn_42 : decode cX8_learn 42 = .ok (.aload_n 2, 1) := by decide +kernel
theorem dX8_learn_43 : decode cX8_learn 43 = .ok (.aload_n 1, 1) := by decide +kernel
theorem dX8_learn_44 : decode cX8_learn 44 = .ok (.getfield 37, 3) := by decide +kernel
theorem dX8_learn_47 : decode cX8_learn 47 = .ok (.invokevirtual 40, 3) := by decide +kernel
theorem dX8_learn_50 : decode cX8_learn 50 = .ok (.iastore, 1) := by decide +kernel
theorem dX8_learn_51 : decode cX8_learn 51 = .ok (.aload_n 0, 1) := by decide +kernel
theorem dX8_learn_52 : decode cX8_learn 52 = .ok (.getfield 11, 3) := by decide +kernel
theorem dX8_learn_55 : decode cX8_learn 55 = .ok (.iconst 5, 1) := by decide +kernel
theorem dX8_learn_56 : decode cX8_learn 56 = .ok (.aload_n 2, 1) := by decide +kernel
theorem dX8_learn_57 : decode cX8_learn 57 = .ok (.aload_n 1, 1) := by decide +kernel
theorem dX8_learn_58 : decode cX8_learn 58 = .ok (.getfield 37, 3) := by decide +kernel
theorem dX8_learn_61 : decode cX8_learn 61 = .ok (.invokevirtual 46, 3) := by decide +kernel
theorem dX8_learn_64 : decode cX8_learn 64 = .ok (.iastore, 1) := by decide +kernel
theorem dX8_learn_65 : decode cX8_learn 65 = .ok (.aload_n 0, 1) := by decide +kernel
theorem dX8_learn_66 : decode cX8_learn 66 = .ok (.getfield 11, 3) := by decide +kernel
theorem dX8_learn_69 : decode cX8_learn 69 = .ok (.bipush 6, 2) := by decide +kernel
theorem dX8_learn_71 : decode cX8_learn 71 = .ok (.aload_n 1, 1) := by decide +kernel
theorem dX8_learn_72 : decode cX8_learn 72 = .ok (.getfield 37, 3) := by decide +kernel
theorem dX8_learn_75 : decode cX8_learn 75 = .ok (.iastore, 1) := by decide +kernel
theorem dX8_learn_76 : decode cX8_learn 76 = .ok (.aload_n 0, 1) := by decide +kernel
theorem dX8_learn_77 : decode cX8_learn 77 = .ok (.getfield 11, 3) := by decide +kernel
theorem dX8_learn_80 : decode cX8_learn 80 = .ok (.bipush 7, 2) := by decide +kernel
theorem dX8_learn_82 : decode cX8_learn 82 = .ok (.iload 4, 2) := by decide +kernel
theorem dX8_learn_84 : decode cX8_learn 84 = .ok (.iastore, 1) := by decide +kernel
theorem dX8_learn_85 : decode cX8_learn 85 = .ok (.aload_n 0, 1) := by decide +kernel
theorem dX8_learn_86 : decode cX8_learn 86 = .ok (.getfield 11, 3) := by decide +kernel
theorem dX8_learn_89 : decode cX8_learn 89 = .ok (.bipush 8, 2) := by decide +kernel
theorem dX8_learn_91 : decode cX8_learn 91 = .ok (.aload_n 1, 1) := by decide +kernel
theorem dX8_learn_92 : decode cX8_learn 92 = .ok (.invokevirtual 49, 3) := by decide +kernel
theorem dX8_learn_95 : decode cX8_learn 95 = .ok (.iastore, 1) := by decide +kernel
theorem dX8_learn_96 : decode cX8_learn 96 = .ok (.return_, 1) := by decide +kernel
theorem dX8_choose_0 : decode cX8_choose 0 = .ok (.iconst 0, 1) := by decide +kernel
theorem dX8_choose_1 : decode cX8_choose 1 = .ok (.istore_n 2, 1) := by decide +kernel
theorem dX8_choose_2 : decode cX8_choose 2 = .ok (.iconst 0, 1) := by decide +kernel
theorem dX8_choose_3 : decode cX8_choose 3 = .ok (.istore_n 3, 1) := by decide +kernel
theorem dX8_choose_4 : decode cX8_choose 4 = .ok (.iload_n 3, 1) := by decide +kernel
theorem dX8_choose_5 : decode cX8_choose 5 = .ok (.aload_n 1, 1) := by decide +kernel
theorem dX8_choose_6 : decode cX8_choose 6 = .ok (.getfield 53, 3) := by decide +kernel
theorem dX8_choose_9 : decode cX8_choose 9 = .ok (.if_icmp .ge 41, 3) := by decide +kernel
theorem dX8_choose_12 : decode cX8_choose 12 = .ok (.aload_n 1, 1) := by decide +kernel
theorem dX8_choose_13 : decode cX8_choose 13 = .ok (.getfield 58, 3) := by decide +kernel
theorem dX8_choose_16 : decode cX8_choose 16 = .ok (.iload_n 3, 1) := by decide +kernel
theorem dX8_choose_17 : decode cX8_choose 17 = .ok (.iaload, 1) := by decide +kernel
theorem dX8_choose_18 : decode cX8_choose 18 = .ok (.istore 4, 2) := by decide +kernel
theorem dX8_choose_20 : decode cX8_choose 20 = .ok (.aload_n 0, 1) := by decide +kernel
theorem dX8_choose_21 : decode cX8_choose 21 = .ok (.aload_n 1, 1) := by decide +kernel
theorem dX8_choose_22 : decode cX8_choose 22 = .ok (.getfield 61, 3) := by decide +kernel
theorem dX8_choose_25 : decode cX8_choose 25 = .ok (.iload_n 2, 1) := by decide +kernel
theorem dX8_choose_26 : decode cX8_choose 26 = .ok (.iload 4, 2) := by decide +kernel
theorem dX8_choose_28 : decode cX8_choose 28 = .ok (.invokevirtual 64, 3) := by decide +kernel
theorem dX8_choose_31 : decode cX8_choose 31 = .ok (.ifCond .eq 10, 3) := by decide +kernel
theorem dX8_choose_34 : decode cX8_choose 34 = .ok (.aload_n 1, 1) := by decide +kernel
theorem dX8_choose_35 : decode cX8_choose 35 = .ok (.getfield 68, 3) := by decide +kernel
theorem dX8_choose_38 : decode cX8_choose 38 = .ok (.iload_n 3, 1) := by decide +kernel
theorem dX8_choose_39 : decode cX8_choose 39 = .ok (.iaload, 1) := by decide +kernel
theorem dX8_choose_40 : decode cX8_choose 40 = .ok (.ireturn, 1) := by decide +kernel
theorem dX8_choose_41 : decode cX8_choose 41 = .ok (.iload 4, 2) := by decide +kernel
theorem dX8_choose_43 : decode cX8_choose 43 = .ok (.istore_n 2, 1) := by decide +kernel
theorem dX8_choose_44 : decode cX8_choose 44 = .ok (.iinc 3 1, 3) := by decide +kernel
theorem dX8_choose_47 : decode cX8_choose 47 = .ok (.goto (-43), 3) := by decide +kernel
theorem dX8_choose_50 : decode cX8_choose 50 = .ok (.iconst (-1), 1) := by decide +kernel
theorem dX8_choose_51 : decode cX8_choose 51 = .ok (.ireturn, 1) := by decide +kernel
theorem dX8_reckon_0 : decode cX8_reckon 0 = .ok (.aload_n 0, 1) := by decide +kernel
theorem dX8_reckon_1 : decode cX8_reckon 1 = .ok (.iconst 0, 1) := by decide +kernel
theorem dX8_reckon_2 : decode cX8_reckon 2 = .ok (.putfield 22, 3) := by decide +kernel
theorem dX8_reckon_5 : decode cX8_reckon 5 = .ok (.iload_n 2, 1) := by decide +kernel
theorem dX8_reckon_6 : decode cX8_reckon 6 = .ok (.istore 4, 2) := by decide +kernel
theorem dX8_reckon_8 : decode cX8_reckon 8 = .ok (.iload 4, 2) := by decide +kernel
theorem dX8_reckon_10 : decode cX8_reckon 10 = .ok (.iload_n 3, 1) := by decide +kernel
theorem dX8_reckon_11 : decode cX8_reckon 11 = .ok (.if_icmp .ge 44, 3) := by decide +kernel
theorem dX8_reckon_14 : decode cX8_reckon 14 = .ok (.iload 4, 2) := by decide +kernel
theorem dX8_reckon_16 : decode cX8_reckon 16 = .ok (.aload_n 1, 1) := by decide +kernel
theorem dX8_reckon_17 : decode cX8_reckon 17 = .ok (.arraylength, 1) := by decide +kernel
theorem dX8_reckon_18 : decode cX8_reckon 18 = .ok (.if_icmp .ge 37, 3) := by decide +kernel
theorem dX8_reckon_21 : decode cX8_reckon 21 = .ok (.aload_n 1, 1) := by decide +kernel
theorem dX8_reckon_22 : decode cX8_reckon 22 = .ok (.iload 4, 2) := by decide +kernel
theorem dX8_reckon_24 : decode cX8_reckon 24 = .ok (.iaload, 1) := by decide +kernel
theorem dX8_reckon_25 : decode cX8_reckon 25 = .ok (.ifCond .lt 14, 3) := by decide +kernel
theorem dX8_reckon_28 : decode cX8_reckon 28 = .ok (.aload_n 0, 1) := by decide +kernel
theorem dX8_reckon_29 : decode cX8_reckon 29 = .ok (.aload_n 1, 1) := by decide +kernel
theorem dX8_reckon_30 : decode cX8_reckon 30 = .ok (.iload 4, 2) := by decide +kernel
theorem dX8_reckon_32 : decode cX8_reckon 32 = .ok (.iaload, 1) := by decide +kernel
theorem dX8_reckon_33 : decode cX8_reckon 33 = .ok (.invokevirtual 71, 3) := by decide +kernel
theorem dX8_reckon_36 : decode cX8_reckon 36 = .ok (.goto 13, 3) := by decide +kernel
theorem dX8_reckon_39 : decode cX8_reckon 39 = .ok (.aload_n 0, 1) := by decide +kernel
theorem dX8_reckon_40 : decode cX8_reckon 40 = .ok (.iconst (-1), 1) := by decide +kernel
theorem dX8_reckon_41 : decode cX8_reckon 41 = .ok (.aload_n 1, 1) := by decide +kernel
theorem dX8_reckon_42 : decode cX8_reckon 42 = .ok (.iload 4, 2) := by decide +kernel
theorem dX8_reckon_44 : decode cX8_reckon 44 = .ok (.iaload, 1) := by decide +kernel
theorem dX8_reckon_45 : decode cX8_reckon 45 = .ok (.isub, 1) := by decide +kernel
theorem dX8_reckon_46 : decode cX8_reckon 46 = .ok (.invokevirtual 75, 3) := by decide +kernel
theorem dX8_reckon_49 : decode cX8_reckon 49 = .ok (.iinc 4 1, 3) := by decide +kernel
theorem dX8_reckon_52 : decode cX8_reckon 52 = .ok (.goto (-44), 3) := by decide +kernel
theorem dX8_reckon_55 : decode cX8_reckon 55 = .ok (.aload_n 0, 1) := by decide +kernel
theorem dX8_reckon_56 : decode cX8_reckon 56 = .ok (.invokevirtual 78, 3) := by decide +kernel
theorem dX8_reckon_59 : decode cX8_reckon 59 = .ok (.ireturn, 1) := by decide +kernel
theorem dX8_reckonToken_0 : decode cX8_reckonToken 0 = .ok (.iload_n 1, 1) := by decide +kernel
theorem dX8_reckonToken_1 : decode cX8_reckonToken 1 = .ok (.bipush 8, 2) := by decide +kernel
theorem dX8_reckonToken_3 : decode cX8_reckonToken 3 = .ok (.isub, 1) := by decide +kernel
theorem dX8_reckonToken_4 : decode cX8_reckonToken 4 = .ok (.istore_n 2, 1) := by decide +kernel
theorem dX8_reckonToken_5 : decode cX8_reckonToken 5 = .ok (.iload_n 2, 1) := by decide +kernel
theorem dX8_reckonToken_6 : decode cX8_reckonToken 6 = .ok (.ifCond .lt 22, 3) := by decide +kernel
theorem dX8_reckonToken_9 : decode cX8_reckonToken 9 = .ok (.iload_n 2, 1) := by decide +kernel
theorem dX8_reckonToken_10 : decode cX8_reckonToken 10 = .ok (.bipush 9, 2) := by decide +kernel
theorem dX8_reckonToken_12 : decode cX8_reckonToken 12 = .ok (.if_icmp .ge 16, 3) := by decide +kernel
theorem dX8_reckonToken_15 : decode cX8_reckonToken 15 = .ok (.aload_n 0, 1) := by decide +kernel
theorem dX8_reckonToken_16 : decode cX8_reckonToken 16 = .ok (.aload_n 0, 1) := by decide +kernel
theorem dX8_reckonToken_17 : decode cX8_reckonToken 17 = .ok (.getfield 11, 3) := by decide +kernel
theorem dX8_reckonToken_20 : decode cX8_reckonToken 20 = .ok (.iload_n 2, 1) := by decide +kernel
theorem dX8_reckonToken_21 : decode cX8_reckonToken 21 = .ok (.iaload, 1) := by decide +kernel
theorem dX8_reckonToken_22 : decode cX8_reckonToken 22 = .ok (.invokevirtual 71, 3) := by decide +kernel
theorem dX8_reckonToken_25 : decode cX8_reckonToken 25 = .ok (.goto 50, 3) := by decide +kernel
theorem dX8_reckonToken_28 : decode cX8_reckonToken 28 = .ok (.iload_n 1, 1) := by decide +kernel
theorem dX8_reckonToken_29 : decode cX8_reckonToken 29 = .ok (.bipush 7, 2) := by decide +kernel
theorem dX8_reckonToken_31 : decode cX8_reckonToken 31 = .ok (.if_icmp .ne 22, 3) := by decide +kernel
theorem dX8_reckonToken_34 : decode cX8_reckonToken 34 = .ok (.aload_n 0, 1) := by decide +kernel
theorem dX8_reckonToken_35 : decode cX8_reckonToken 35 = .ok (.aload_n 0, 1) := by decide +kernel
theorem dX8_reckonToken_36 : decode cX8_reckonToken 36 = .ok (.invokevirtual 78, 3) := by decide +kernel
theorem dX8_reckonToken_39 : decode cX8_reckonToken 39 = .ok (.ifCond .ne 7, 3) := by decide +kernel
theorem dX8_reckonToken_42 : decode cX8_reckonToken 42 = .ok (.iconst 1, 1) := by decide +kernel
theorem dX8_reckonToken_43 : decode cX8_reckonToken 43 = .ok (.goto 4, 3) := by decide +kernel
theorem dX8_reckonToken_46 : decode cX8_reckonToken 46 = .ok (.iconst 0, 1) := by decide +kernel
theorem dX8_reckonToken_47 : decode cX8_reckonToken 47 = .ok (.invokevirtual 71, 3) := by decide +kernel
theorem dX8_reckonToken_50 : decode cX8_reckonToken 50 = .ok (.goto 25, 3) := by decide +kernel
theorem dX8_reckonToken_53 : decode cX8_reckonToken 53 = .ok (.aload_n 0, 1) := by decide +kernel
theorem dX8_reckonToken_54 : decode cX8_reckonToken 54 = .ok (.invokevirtual 78, 3) := by decide +kernel
theorem dX8_reckonToken_57 : decode cX8_reckonToken 57 = .ok (.istore_n 3, 1) := by decide +kernel
theorem dX8_reckonToken_58 : decode cX8_reckonToken 58 = .ok (.aload_n 0, 1) := by decide +kernel
theorem dX8_reckonToken_59 : decode cX8_reckonToken 59 = .ok (.invokevirtual 78, 3) := by decide +kernel
theorem dX8_reckonToken_62 : decode cX8_reckonToken 62 = .ok (.istore 4, 2) := by decide +kernel
theorem dX8_reckonToken_64 : decode cX8_reckonToken 64 = .ok (.aload_n 0, 1) := by decide +kernel
theorem dX8_reckonToken_65 : decode cX8_reckonToken 65 = .ok (.iload_n 1, 1) := by decide +kernel
theorem dX8_reckonToken_66 : decode cX8_reckonToken 66 = .ok (.iload 4, 2) := by decide +kernel
theorem dX8_reckonToken_68 : decode cX8_reckonToken 68 = .ok (.iload_n 3, 1) := by decide +kernel
theorem dX8_reckonToken_69 : decode cX8_reckonToken 69 = .ok (.invokestatic 81, 3) := by decide +kernel
theorem dX8_reckonToken_72 : decode cX8_reckonToken 72 = .ok (.invokevirtual 71, 3) := by decide +kernel
theorem dX8_reckonToken_75 : decode cX8_reckonToken 75 = .ok (.return_, 1) := by decide +kernel
theorem dX8_join_0 : decode cX8_join 0 = .ok (.iload_n 0, 1) := by decide +kernel
theorem dX8_join_1 : decode cX8_join 1 = .ok (.tableswitch 156 5 22 #[87, 101, 156, 156, 156, 156, 156, 156, 156, 156, 156, 156, 156, 115, 126, 137, 148, 152], 87) := by decide +kernel
theorem dX8_join_88 : decode cX8_join 88 = .ok (.iload_n 1, 1) := by decide +kernel
theorem dX8_join_89 : decode cX8_join 89 = .ok (.ifCond .ne 7, 3) := by decide +kernel
theorem dX8_join_92 : decode cX8_join 92 = .ok (.iload_n 2, 1) := by decide +kernel
theorem dX8_join_93 : decode cX8_join 93 = .ok (.ifCond .eq 7, 3) := by decide +kernel
theorem dX8_join_96 : decode cX8_join 96 = .ok (.iconst 1, 1) := by decide +kernel
theorem dX8_join_97 : decode cX8_join 97 = .ok (.goto 4, 3) := by decide +kernel
theorem dX8_join_100 : decode cX8_join 100 = .ok (.iconst 0, 1) := by decide +kernel
theorem dX8_join_101 : decode cX8_join 101 = .ok (.ireturn, 1) := by decide +kernel
theorem dX8_join_102 : decode cX8_join 102 = .ok (.iload_n 1, 1) := by decide +kernel
theorem dX8_join_103 : decode cX8_join 103 = .ok (.ifCond .eq 11, 3) := by decide +kernel
theorem dX8_join_106 : decode cX8_join 106 = .ok (.iload_n 2, 1) := by decide +kernel
theorem dX8_join_107 : decode cX8_join 107 = .ok (.ifCond .eq 7, 3) := by decide +kernel
theorem dX8_join_110 : decode cX8_join 110 = .ok (.iconst 1, 1) := by decide +kernel
theorem dX8_join_111 : decode cX8_join 111 = .ok (.goto 4, 3) := by decide +kernel
theorem dX8_join_114 : decode cX8_join 114 = .ok (.iconst 0, 1) := by decide +kernel
theorem dX8_join_115 : decode cX8_join 115 = .ok (.ireturn, 1) := by decide +kernel
theorem dX8_join_116 : decode cX8_join 116 = .ok (.iload_n 1, 1) := by decide +kernel
theorem dX8_join_117 : decode cX8_join 117 = .ok (.iload_n 2, 1) := by decide +kernel
theorem dX8_join_118 : decode cX8_join 118 = .ok (.if_icmp .ge 7, 3) := by decide +kernel
theorem dX8_join_121 : decode cX8_join 121 = .ok (.iconst 1, 1) := by decide +kernel
theorem dX8_join_122 : decode cX8_join 122 = .ok (.goto 4, 3) := by decide +kernel
theorem dX8_join_125 : decode cX8_join 125 = .ok (.iconst 0, 1) := by decide +kernel
theorem dX8_join_126 : decode cX8_join 126 = .ok (.ireturn, 1) := by decide +kernel
theorem dX8_join_127 : decode cX8_join 127 = .ok (.iload_n 1, 1) := by decide +kernel
theorem dX8_join_128 : decode cX8_join 128 = .ok (.iload_n 2, 1) := by decide +kernel
theorem dX8_join_129 : decode cX8_join 129 = .ok (.if_icmp .le 7, 3) := by decide +kernel
theorem dX8_join_132 : decode cX8_join 132 = .ok (.iconst 1, 1) := by decide +kernel
theorem dX8_join_133 : decode cX8_join 133 = .ok (.goto 4, 3) := by decide +kernel
theorem dX8_join_136 : decode cX8_join 136 = .ok (.iconst 0, 1) := by decide +kernel
theorem dX8_join_137 : decode cX8_join 137 = .ok (.ireturn, 1) := by decide +kernel
theorem dX8_join_138 : decode cX8_join 138 = .ok (.iload_n 1, 1) := by decide +kernel
theorem dX8_join_139 : decode cX8_join 139 = .ok (.iload_n 2, 1) := by decide +kernel
theorem dX8_join_140 : decode cX8_join 140 = .ok (.if_icmp .ne 7, 3) := by decide +kernel
theorem dX8_join_143 : decode cX8_join 143 = .ok (.iconst 1, 1) := by decide +kernel
theorem dX8_join_144 : decode cX8_join 144 = .ok (.goto 4, 3) := by decide +kernel
theorem dX8_join_147 : decode cX8_join 147 = .ok (.iconst 0, 1) := by decide +kernel
theorem dX8_join_148 : decode cX8_join 148 = .ok (.ireturn, 1) := by decide +kernel
theorem dX8_join_149 : decode cX8_join 149 = .ok (.iload_n 1, 1) := by decide +kernel
theorem dX8_join_150 : decode cX8_join 150 = .ok (.iload_n 2, 1) := by decide +kernel
theorem dX8_join_151 : decode cX8_join 151 = .ok (.iadd, 1) := by decide +kernel
theorem dX8_join_152 : decode cX8_join 152 = .ok (.ireturn, 1) := by decide +kernel
theorem dX8_join_153 : decode cX8_join 153 = .ok (.iload_n 1, 1) := by decide +kernel
theorem dX8_join_154 : decode cX8_join 154 = .ok (.iload_n 2, 1) := by decide +kernel
theorem dX8_join_155 : decode cX8_join 155 = .ok (.isub, 1) := by decide +kernel
theorem dX8_join_156 : decode cX8_join 156 = .ok (.ireturn, 1) := by decide +kernel
theorem dX8_join_157 : decode cX8_join 157 = .ok (.iconst 0, 1) := by decide +kernel
theorem dX8_join_158 : decode cX8_join 158 = .ok (.ireturn, 1) := by decide +kernel
theorem dX8_push_0 : decode cX8_push 0 = .ok (.aload_n 0, 1) := by decide +kernel
theorem dX8_push_1 : decode cX8_push 1 = .ok (.getfield 22, 3) := by decide +kernel
theorem dX8_push_4 : decode cX8_push 4 = .ok (.ifCond .lt 35, 3) := by decide +kernel
theorem dX8_push_7 : decode cX8_push 7 = .ok (.aload_n 0, 1) := by decide +kernel
theorem dX8_push_8 : decode cX8_push 8 = .ok (.getfield 22, 3) := by decide +kernel
theorem dX8_push_11 : decode cX8_push 11 = .ok (.aload_n 0, 1) := by decide +kernel
theorem dX8_push_12 : decode cX8_push 12 = .ok (.getfield 19, 3) := by decide +kernel
theorem dX8_push_15 : decode cX8_push 15 = .ok (.arraylength, 1) := by decide +kernel
theorem dX8_push_16 : decode cX8_push 16 = .ok (.if_icmp .ge 23, 3) := by decide +kernel
theorem dX8_push_19 : decode cX8_push 19 = .ok (.aload_n 0, 1) := by decide +kernel
theorem dX8_push_20 : decode cX8_push 20 = .ok (.getfield 19, 3) := by decide +kernel
theorem dX8_push_23 : decode cX8_push 23 = .ok (.aload_n 0, 1) := by decide +kernel
theorem dX8_push_24 : decode cX8_push 24 = .ok (.getfield 22, 3) := by decide +kernel
theorem dX8_push_27 : decode cX8_push 27 = .ok (.iload_n 1, 1) := by decide +kernel
theorem dX8_push_28 : decode cX8_push 28 = .ok (.iastore, 1) := by decide +kernel
theorem dX8_push_29 : decode cX8_push 29 = .ok (.aload_n 0, 1) := by decide +kernel
theorem dX8_push_30 : decode cX8_push 30 = .ok (.dup, 1) := by decide +kernel
theorem dX8_push_31 : decode cX8_push 31 = .ok (.getfield 22, 3) := by decide +kernel
theorem dX8_push_34 : decode cX8_push 34 = .ok (.iconst 1, 1) := by decide +kernel
theorem dX8_push_35 : decode cX8_push 35 = .ok (.iadd, 1) := by decide +kernel
theorem dX8_push_36 : decode cX8_push 36 = .ok (.putfield 22, 3) := by decide +kernel
theorem dX8_push_39 : decode cX8_push 39 = .ok (.return_, 1) := by decide +kernel
theorem dX8_pop_0 : decode cX8_pop 0 = .ok (.aload_n 0, 1) := by decide +kernel
theorem dX8_pop_1 : decode cX8_pop 1 = .ok (.getfield 22, 3) := by decide +kernel
theorem dX8_pop_4 : decode cX8_pop 4 = .ok (.ifCond .le 15, 3) := by decide +kernel
theorem dX8_pop_7 : decode cX8_pop 7 = .ok (.aload_n 0, 1) := by decide +kernel
theorem dX8_pop_8 : decode cX8_pop 8 = .ok (.getfield 22, 3) := by decide +kernel
theorem dX8_pop_11 : decode cX8_pop 11 = .ok (.aload_n 0, 1) := by decide +kernel
theorem dX8_pop_12 : decode cX8_pop 12 = .ok (.getfield 19, 3) := by decide +kernel
theorem dX8_pop_15 : decode cX8_pop 15 = .ok (.arraylength, 1) := by decide +kernel
theorem dX8_pop_16 : decode cX8_pop 16 = .ok (.if_icmp .le 5, 3) := by decide +kernel
theorem dX8_pop_19 : decode cX8_pop 19 = .ok (.iconst 0, 1) := by decide +kernel
theorem dX8_pop_20 : decode cX8_pop 20 = .ok (.ireturn, 1) := by decide +kernel
theorem dX8_pop_21 : decode cX8_pop 21 = .ok (.aload_n 0, 1) := by decide +kernel
theorem dX8_pop_22 : decode cX8_pop 22 = .ok (.dup, 1) := by decide +kernel
theorem dX8_pop_23 : decode cX8_pop 23 = .ok (.getfield 22, 3) := by decide +kernel
theorem dX8_pop_26 : decode cX8_pop 26 = .ok (.iconst 1, 1) := by decide +kernel
theorem dX8_pop_27 : decode cX8_pop 27 = .ok (.isub, 1) := by decide +kernel
theorem dX8_pop_28 : decode cX8_pop 28 = .ok (.putfield 22, 3) := by decide +kernel
theorem dX8_pop_31 : decode cX8_pop 31 = .ok (.aload_n 0, 1) := by decide +kernel
theorem dX8_pop_32 : decode cX8_pop 32 = .ok (.getfield 19, 3) := by decide +kernel
theorem dX8_pop_35 : decode cX8_pop 35 = .ok (.aload_n 0, 1) := by decide +kernel
theorem dX8_pop_36 : decode cX8_pop 36 = .ok (.getfield 22, 3) := by decide +kernel
theorem dX8_pop_39 : decode cX8_pop 39 = .ok (.iaload, 1) := by decide +kernel
theorem dX8_pop_40 : decode cX8_pop 40 = .ok (.ireturn, 1) := by decide +kernel
theorem dX9_init_0 : decode cX9_init 0 = .ok (.aload_n 0, 1) := by decide +kernel
theorem dX9_init_1 : decode cX9_init 1 = .ok (.invokespecial 3, 3) := by decide +kernel
theorem dX9_init_4 : decode cX9_init 4 = .ok (.aload_n 0, 1) := by decide +kernel
theorem dX9_init_5 : decode cX9_init 5 = .ok (.iconst 2, 1) := by decide +kernel
theorem dX9_init_6 : decode cX9_init 6 = .ok (.putfield 9, 3) := by decide +kernel
theorem dX9_init_9 : decode cX9_init 9 = .ok (.aload_n 0, 1) := by decide +kernel
theorem dX9_init_10 : decode cX9_init 10 = .ok (.bipush 10, 2) := by decide +kernel
theorem dX9_init_12 : decode cX9_init 12 = .ok (.newarray .int, 2) := by decide +kernel
theorem dX9_init_14 : decode cX9_init 14 = .ok (.putfield 15, 3) := by decide +kernel
theorem dX9_init_17 : decode cX9_init 17 = .ok (.aload_n 0, 1) := by decide +kernel
theorem dX9_init_18 : decode cX9_init 18 = .ok (.bipush 10, 2) := by decide +kernel
theorem dX9_init_20 : decode cX9_init 20 = .ok (.newarray .int, 2) := by decide +kernel
theorem dX9_init_22 : decode cX9_init 22 = .ok (.putfield 19, 3) := by decide +kernel
theorem dX9_init_25 : decode cX9_init 25 = .ok (.aload_n 0, 1) := by decide +kernel
theorem dX9_init_26 : decode cX9_init 26 = .ok (.bipush 10, 2) := by decide +kernel
theorem dX9_init_28 : decode cX9_init 28 = .ok (.newarray .int, 2) := by decide +kernel
theorem dX9_init_30 : decode cX9_init 30 = .ok (.putfield 22, 3) := by decide +kernel
theorem dX9_init_33 : decode cX9_init 33 = .ok (.aload_n 0, 1) := by decide +kernel
theorem dX9_init_34 : decode cX9_init 34 = .ok (.bipush 10, 2) := by decide +kernel
theorem dX9_init_36 : decode cX9_init 36 = .ok (.newarray .int, 2) := by decide +kernel
theorem dX9_init_38 : decode cX9_init 38 = .ok (.putfield 25, 3) := by decide +kernel
theorem dX9_init_41 : decode cX9_init 41 = .ok (.aload_n 0, 1) := by decide +kernel
theorem dX9_init_42 : decode cX9_init 42 = .ok (.bipush 10, 2) := by decide +kernel
theorem dX9_init_44 : decode cX9_init 44 = .ok (.newarray .int, 2) := by decide +kernel
theorem dX9_init_46 : decode cX9_init 46 = .ok (.putfield 28, 3) := by decide +kernel
theorem dX9_init_49 : decode cX9_init 49 = .ok (.aload_n 0, 1) := by decide +kernel
theorem dX9_init_50 : decode cX9_init 50 = .ok (.bipush 10, 2) := by decide +kernel
theorem dX9_init_52 : decode cX9_init 52 = .ok (.newarray .int, 2) := by decide +kernel
theorem dX9_init_54 : decode cX9_init 54 = .ok (.putfield 31, 3) := by decide +kernel
theorem dX9_init_57 : decode cX9_init 57 = .ok (.aload_n 0, 1) := by decide +kernel
theorem dX9_init_58 : decode cX9_init 58 = .ok (.getfield 15, 3) := by decide +kernel
theorem dX9_init_61 : decode cX9_init 61 = .ok (.iconst 0, 1) := by decide +kernel
theorem dX9_init_62 : decode cX9_init 62 = .ok (.iconst 1, 1) := by decide +kernel
theorem dX9_init_63 : decode cX9_init 63 = .ok (.iastore, 1) := by decide +kernel
theorem dX9_init_64 : decode cX9_init 64 = .ok (.aload_n 0, 1) := by decide +kernel
theorem dX9_init_65 : decode cX9_init 65 = .ok (.getfield 19, 3) := by decide +kernel
theorem dX9_init_68 : decode cX9_init 68 = .ok (.iconst 0, 1) := by decide +kernel
theorem dX9_init_69 : decode cX9_init 69 = .ok (.iconst 1, 1) := by decide +kernel
theorem dX9_init_70 : decode cX9_init 70 = .ok (.iastore, 1) := by decide +kernel
theorem dX9_init_71 : decode cX9_init 71 = .ok (.return_, 1) := by decide +kernel
theorem dX9_canBeMiles_0 : decode cX9_canBeMiles 0 = .ok (.iload_n 0, 1) := by decide +kernel
theorem dX9_canBeMiles_1 : decode cX9_canBeMiles 1 = .ok (.iconst 1, 1) := by decide +kernel
theorem dX9_canBeMiles_2 : decode cX9_canBeMiles 2 = .ok (.bipush 30, 2) := by decide +kernel
theorem dX9_canBeMiles_4 : decode cX9_canBeMiles 4 = .ok (.invokestatic 34, 3) := by decide +kernel
theorem dX9_canBeMiles_7 : decode cX9_canBeMiles 7 = .ok (.ireturn, 1) := by decide +kernel
theorem dX9_has_0 : decode cX9_has 0 = .ok (.iload_n 1, 1) := by decide +kernel
theorem dX9_has_1 : decode cX9_has 1 = .ok (.ifCond .lt 15, 3) := by decide +kernel
theorem dX9_has_4 : decode cX9_has 4 = .ok (.iload_n 1, 1) := by decide +kernel
theorem dX9_has_5 : decode cX9_has 5 = .ok (.aload_n 0, 1) := by decide +kernel
theorem dX9_has_6 : decode cX9_has 6 = .ok (.getfield 9, 3) := by decide +kernel
theorem dX9_has_9 : decode cX9_has 9 = .ok (.if_icmp .ge 7, 3) := by decide +kernel
theorem dX9_has_12 : decode cX9_has 12 = .ok (.iconst 1, 1) := by decide +kernel
theorem dX9_has_13 : decode cX9_has 13 = .ok (.goto 4, 3) := by decide +kernel
theorem dX9_has_16 : decode cX9_has 16 = .ok (.iconst 0, 1) := by decide +kernel
theorem dX9_has_17 : decode cX9_has 17 = .ok (.ireturn, 1) := by decide +kernel
theorem dX9_fair_0 : decode cX9_fair 0 = .ok (.aload_n 0, 1) := by decide +kernel
theorem dX9_fair_1 : decode cX9_fair 1 = .ok (.getfield 9, 3) := by decide +kernel
theorem dX9_fair_4 : decode cX9_fair 4 = .ok (.iconst 1, 1) := by decide +kernel
theorem dX9_fair_5 : decode cX9_fair 5 = .ok (.isub, 1) := by decide +kernel
theorem dX9_fair_6 : decode cX9_fair 6 = .ok (.ireturn, 1) := by decide +kernel
theorem dX9_lengthen_0 : decode cX9_lengthen 0 = .ok (.aload_n 0, 1) := by decide +kernel
theorem dX9_lengthen_1 : decode cX9_lengthen 1 = .ok (.getfield 9, 3) := by decide +kernel
theorem dX9_lengthen_4 : decode cX9_lengthen 4 = .ok (.bipush 10, 2) := by decide +kernel
theorem dX9_lengthen_6 : decode cX9_lengthen 6 = .ok (.if_icmp .lt 5, 3) := by decide +kernel
theorem dX9_lengthen_9 : decode cX9_lengthen 9 = .ok (.iconst (-1), 1) := by decide +kernel
theorem dX9_lengthen_10 : decode cX9_lengthen 10 = .ok (.ireturn, 1) := by decide +kernel
theorem dX9_lengthen_11 : decode cX9_lengthen 11 = .ok (.aload_n 0, 1) := by decide +kernel
theorem dX9_lengthen_12 : decode cX9_lengthen 12 = .ok (.getfield 15, 3) := by decide +kernel
theorem dX9_lengthen_15 : decode cX9_lengthen 15 = .ok (.aload_n 0, 1) := by decide +kernel
theorem dX9_lengthen_16 : decode cX9_lengthen 16 = .ok (.getfield 9, 3) := by decide +kernel
theorem dX9_lengthen_19 : decode cX9_lengthen 19 = .ok (.iconst 1, 1) := by decide +kernel
theorem dX9_lengthen_20 : decode cX9_lengthen 20 = .ok (.isub, 1) := by decide +kernel
theorem dX9_lengthen_21 : decode cX9_lengthen 21 = .ok (.iload_n 1, 1) := by decide +kernel
theorem dX9_lengthen_22 : decode cX9_lengthen 22 = .ok (.iastore, 1) := by decide +kernel
theorem dX9_lengthen_23 : decode cX9_lengthen 23 = .ok (.aload_n 0, 1) := by decide +kernel
theorem dX9_lengthen_24 : decode cX9_lengthen 24 = .ok (.dup, 1) := by decide +kernel
theorem dX9_lengthen_25 : decode cX9_lengthen 25 = .ok (.getfield 9, 3) := by decide +kernel
theorem dX9_lengthen_28 : decode cX9_lengthen 28 = .ok (.iconst 1, 1) := by decide +kernel
theorem dX9_lengthen_29 : decode cX9_lengthen 29 = .ok (.iadd, 1) := by decide +kernel
theorem dX9_lengthen_30 : decode cX9_lengthen 30 = .ok (.putfield 9, 3) := by decide +kernel
theorem dX9_lengthen_33 : decode cX9_lengthen 33 = .ok (.aload_n 0, 1) := by decide +kernel
theorem dX9_lengthen_34 : decode cX9_lengthen 34 = .ok (.invokevirtual 38, 3) := by decide +kernel
theorem dX9_lengthen_37 : decode cX9_lengthen 37 = .ok (.aload_n 0, 1) := by decide +kernel
theorem dX9_lengthen_38 : decode cX9_lengthen 38 = .ok (.invokevirtual 41, 3) := by decide +kernel
theorem dX9_lengthen_41 : decode cX9_lengthen 41 = .ok (.ireturn, 1) := by decide +kernel
theorem dX9_setFirstMiles_0 : decode cX9_setFirstMiles 0 = .ok (.aload_n 0, 1) := by decide +kernel
theorem dX9_setFirstMiles_1 : decode cX9_setFirstMiles 1 = .ok (.getfield 15, 3) := by decide +kernel
theorem dX9_setFirstMiles_4 : decode cX9_setFirstMiles 4 = .ok (.iconst 0, 1) := by decide +kernel
theorem dX9_setFirstMiles_5 : decode cX9_setFirstMiles 5 = .ok (.iload_n 1, 1) := by decide +kernel
theorem dX9_setFirstMiles_6 : decode cX9_setFirstMiles 6 = .ok (.iastore, 1) := by decide +kernel
theorem dX9_setFirstMiles_7 : decode cX9_setFirstMiles 7 = .ok (.aload_n 0, 1) := by decide +kernel
theorem dX9_setFirstMiles_8 : decode cX9_setFirstMiles 8 = .ok (.invokevirtual 38, 3) := by decide +kernel
theorem dX9_setFirstMiles_11 : decode cX9_setFirstMiles 11 = .ok (.return_, 1) := by decide +kernel
theorem dX9_measure_0 : decode cX9_measure 0 = .ok (.iconst 0, 1) := by decide +kernel
theorem dX9_measure_1 : decode cX9_measure 1 = .ok (.istore_n 1, 1) := by decide +kernel
theorem dX9_measure_2 : decode cX9_measure 2 = .ok (.aload_n 0, 1) := by decide +kernel
theorem dX9_measure_3 : decode cX9_measure 3 = .ok (.invokevirtual 41, 3) := by decide +kernel
theorem dX9_measure_6 : decode cX9_measure 6 = .ok (.istore_n 2, 1) := by decide +kernel
theorem dX9_measure_7 : decode cX9_measure 7 = .ok (.iload_n 2, 1) := by decide +kernel
theorem dX9_measure_8 : decode cX9_measure 8 = .ok (.ifCond .lt 25, 3) := by decide +kernel
theorem dX9_measure_11 : decode cX9_measure 11 = .ok (.iload_n 1, 1) := by decide +kernel
theorem dX9_measure_12 : decode cX9_measure 12 = .ok (.aload_n 0, 1) := by decide +kernel
theorem dX9_measure_13 : decode cX9_measure 13 = .ok (.getfield 15, 3) := by decide +kernel
theorem dX9_measure_16 : decode cX9_measure 16 = .ok (.iload_n 2, 1) := by decide +kernel
theorem dX9_measure_17 : decode cX9_measure 17 = .ok (.iaload, 1) := by decide +kernel
theorem dX9_measure_18 : decode cX9_measure 18 = .ok (.iadd, 1) := by decide +kernel
theorem dX9_measure_19 : decode cX9_measure 19 = .ok (.istore_n 1, 1) := by decide +kernel
theorem dX9_measure_20 : decode cX9_measure 20 = .ok (.aload_n 0, 1) := by decide +kernel
theorem dX9_measure_21 : decode cX9_measure 21 = .ok (.getfield 19, 3) := by decide +kernel
theorem dX9_measure_24 : decode cX9_measure 24 = .ok (.iload_n 2, 1) := by decide +kernel
theorem dX9_measure_25 : decode cX9_measure 25 = .ok (.iload_n 1, 1) := by decide +kernel
theorem dX9_measure_26 : decode cX9_measure 26 = .ok (.iastore, 1) := by decide +kernel
theorem dX9_measure_27 : decode cX9_measure 27 = .ok (.iinc 2 (-1), 3) := by decide +kernel
theorem dX9_measure_30 : decode cX9_measure 30 = .ok (.goto (-23), 3) := by decide +kernel
theorem dX9_measure_33 : decode cX9_measure 33 = .ok (.return_, 1) := by decide +kernel
theorem dX9_milesOfStage_0 : decode cX9_milesOfStage 0 = .ok (.aload_n 0, 1) := by decide +kernel
theorem dX9_milesOfStage_1 : decode cX9_milesOfStage 1 = .ok (.iload_n 1, 1) := by decide +kernel
theorem dX9_milesOfStage_2 : decode cX9_milesOfStage 2 = .ok (.invokevirtual 45, 3) := by decide +kernel
theorem dX9_milesOfStage_5 : decode cX9_milesOfStage 5 = .ok (.ifCond .eq 12, 3) := by decide +kernel
theorem dX9_milesOfStage_8 : decode cX9_milesOfStage 8 = .ok (.aload_n 0, 1) := by decide +kernel
theorem dX9_milesOfStage_9 : decode cX9_milesOfStage 9 = .ok (.getfield 15, 3) := by decide +kernel
theorem dX9_milesOfStage_12 : decode cX9_milesOfStage 12 = .ok (.iload_n 1, 1) := by decide +kernel
theorem dX9_milesOfStage_13 : decode cX9_milesOfStage 13 = .ok (.iaload, 1) := by decide +kernel
theorem dX9_milesOfStage_14 : decode cX9_milesOfStage 14 = .ok (.goto 4, 3) := by decide +kernel
theorem dX9_milesOfStage_17 : decode cX9_milesOfStage 17 = .ok (.iconst 0, 1) := by decide +kernel
theorem dX9_milesOfStage_18 : decode cX9_milesOfStage 18 = .ok (.ireturn, 1) := by decide +kernel
theorem dX9_milesToFair_0 : decode cX9_milesToFair 0 = .ok (.aload_n 0, 1) := by decide +kernel
theorem dX9_milesToFair_1 : decode cX9_milesToFair 1 = .ok (.iload_n 1, 1) := by decide +kernel
theorem dX9_milesToFair_2 : decode cX9_milesToFair 2 = .ok (.invokevirtual 45, 3) := by decide +kernel
theorem dX9_milesToFair_5 : decode cX9_milesToFair 5 = .ok (.ifCond .eq 12, 3) := by decide +kernel
theorem dX9_milesToFair_8 : decode cX9_milesToFair 8 = .ok (.aload_n 0, 1) := by decide +kernel
theorem dX9_milesToFair_9 : decode cX9_milesToFair 9 = .ok (.getfield 19, 3) := by decide +kernel
theorem dX9_milesToFair_12 : decode cX9_milesToFair 12 = .ok (.iload_n 1, 1) := by decide +kernel
theorem dX9_milesToFair_13 : decode cX9_milesToFair 13 = .ok (.iaload, 1) := by decide +kernel
theorem dX9_milesToFair_14 : decode cX9_milesToFair 14 = .ok (.goto 4, 3) := by decide +kernel
theorem dX9_milesToFair_17 : decode cX9_milesToFair 17 = .ok (.iconst 0, 1) := by decide +kernel
theorem dX9_milesToFair_18 : decode cX9_milesToFair 18 = .ok (.ireturn, 1) := by decide +kernel
theorem dX9_grassAt_0 : decode cX9_grassAt 0 = .ok (.aload_n 0, 1) := by decide +kernel
theorem dX9_grassAt_1 : decode cX9_grassAt 1 = .ok (.iload_n 1, 1) := by decide +kernel
theorem dX9_grassAt_2 : decode cX9_grassAt 2 = .ok (.invokevirtual 45, 3) := by decide +kernel
theorem dX9_grassAt_5 : decode cX9_grassAt 5 = .ok (.ifCond .eq 12, 3) := by decide +kernel
theorem dX9_grassAt_8 : decode cX9_grassAt 8 = .ok (.aload_n 0, 1) := by decide +kernel
theorem dX9_grassAt_9 : decode cX9_grassAt 9 = .ok (.getfield 22, 3) := by decide +kernel
theorem dX9_grassAt_12 : decode cX9_grassAt 12 = .ok (.iload_n 1, 1) := by decide +kernel
theorem dX9_grassAt_13 : decode cX9_grassAt 13 = .ok (.iaload, 1) := by decide +kernel
theorem dX9_grassAt_14 : decode cX9_grassAt 14 = .ok (.goto 4, 3) := by decide +kernel
theorem dX9_grassAt_17 : decode cX9_grassAt 17 = .ok (.iconst 0, 1) := by decide +kernel
theorem dX9_grassAt_18 : decode cX9_grassAt 18 = .ok (.ireturn, 1) := by decide +kernel
theorem dX9_sow_0 : decode cX9_sow 0 = .ok (.iload 4, 2) := by decide +kernel
theorem dX9_sow_2 : decode cX9_sow 2 = .ok (.iconst 0, 1) := by decide +kernel
theorem dX9_sow_3 : decode cX9_sow 3 = .ok (.ldc 49, 2) := by decide +kernel
theorem dX9_sow_5 : decode cX9_sow 5 = .ok (.invokestatic 34, 3) := by decide +kernel
theorem dX9_sow_8 : decode cX9_sow 8 = .ok (.ifCond .eq 28, 3) := by decide +kernel
theorem dX9_sow_11 : decode cX9_sow 11 = .ok (.iload_n 2, 1) := by decide +kernel
theorem dX9_sow_12 : decode cX9_sow 12 = .ok (.iconst 0, 1) := by decide +kernel
theorem dX9_sow_13 : decode cX9_sow 13 = .ok (.iload 4, 2) := by decide +kernel
theorem dX9_sow_15 : decode cX9_sow 15 = .ok (.invokestatic 34, 3) := by decide +kernel
theorem dX9_sow_18 : decode cX9_sow 18 = .ok (.ifCond .eq 18, 3) := by decide +kernel
theorem dX9_sow_21 : decode cX9_sow 21 = .ok (.iload_n 3, 1) := by decide +kernel
theorem dX9_sow_22 : decode cX9_sow 22 = .ok (.iconst 0, 1) := by decide +kernel
theorem dX9_sow_23 : decode cX9_sow 23 = .ok (.sipush 1000, 3) := by decide +kernel
theorem dX9_sow_26 : decode cX9_sow 26 = .ok (.invokestatic 34, 3) := by decide +kernel
theorem dX9_sow_29 : decode cX9_sow 29 = .ok (.ifCond .eq 7, 3) := by decide +kernel
theorem dX9_sow_32 : decode cX9_sow 32 = .ok (.iconst 1, 1) := by decide +kernel
theorem dX9_sow_33 : decode cX9_sow 33 = .ok (.goto 4, 3) := by decide +kernel
theorem dX9_sow_36 : decode cX9_sow 36 = .ok (.iconst 0, 1) := by decide +kernel
theorem dX9_sow_37 : decode cX9_sow 37 = .ok (.istore 5, 2) := by decide +kernel
theorem dX9_sow_39 : decode cX9_sow 39 = .ok (.iload 5, 2) := by decide +kernel
theorem dX9_sow_41 : decode cX9_sow 41 = .ok (.ifCond .eq 19, 3) := by decide +kernel
theorem dX9_sow_44 : decode cX9_sow 44 = .ok (.aload_n 0, 1) := by decide +kernel
theorem dX9_sow_45 : decode cX9_sow 45 = .ok (.iload_n 1, 1) := by decide +kernel
theorem dX9_sow_46 : decode cX9_sow 46 = .ok (.invokevirtual 45, 3) := by decide +kernel
theorem dX9_sow_49 : decode cX9_sow 49 = .ok (.ifCond .eq 11, 3) := by decide +kernel
theorem dX9_sow_52 : decode cX9_sow 52 = .ok (.iload_n 1, 1) := by decide +kernel
theorem dX9_sow_53 : decode cX9_sow 53 = .ok (.aload_n 0, 1) := by decide +kernel
theorem dX9_sow_54 : decode cX9_sow 54 = .ok (.invokevirtual 41, 3) := by decide +kernel
theorem dX9_sow_57 : decode cX9_sow 57 = .ok (.if_icmp .ne 5, 3) := by decide +kernel
theorem dX9_sow_60 : decode cX9_sow 60 = .ok (.iconst 0, 1) := by decide +kernel
theorem dX9_sow_61 : decode cX9_sow 61 = .ok (.ireturn, 1) := by decide +kernel
theorem dX9_sow_62 : decode cX9_sow 62 = .ok (.aload_n 0, 1) := by decide +kernel
theorem dX9_sow_63 : decode cX9_sow 63 = .ok (.getfield 22, 3) := by decide +kernel
theorem dX9_sow_66 : decode cX9_sow 66 = .ok (.iload_n 1, 1) := by decide +kernel
theorem dX9_sow_67 : decode cX9_sow 67 = .ok (.iload_n 2, 1) := by decide +kernel
theorem dX9_sow_68 : decode cX9_sow 68 = .ok (.iastore, 1) := by decide +kernel
theorem dX9_sow_69 : decode cX9_sow 69 = .ok (.aload_n 0, 1) := by decide +kernel
theorem dX9_sow_70 : decode cX9_sow 70 = .ok (.getfield 25, 3) := by decide +kernel
theorem dX9_sow_73 : decode cX9_sow 73 = .ok (.iload_n 1, 1) := by decide +kernel
theorem dX9_sow_74 : decode cX9_sow 74 = .ok (.iload_n 3, 1) := by decide +kernel
theorem dX9_sow_75 : decode cX9_sow 75 = .ok (.iastore, 1) := by decide +kernel
theorem dX9_sow_76 : decode cX9_sow 76 = .ok (.aload_n 0, 1) := by decide +kernel
theorem dX9_sow_77 : decode cX9_sow 77 = .ok (.getfield 28, 3) := by decide +kernel
theorem dX9_sow_80 : decode cX9_sow 80 = .ok (.iload_n 1, 1) := by decide +kernel
theorem dX9_sow_81 : decode cX9_sow 81 = .ok (.iload 4, 2) := by decide +kernel
theorem dX9_sow_83 : decode cX9_sow 83 = .ok (.iastore, 1) := by decide +kernel
theorem dX9_sow_84 : decode cX9_sow 84 = .ok (.iconst 1, 1) := by decide +kernel
theorem dX9_sow_85 : decode cX9_sow 85 = .ok (.ireturn, 1) := by decide +kernel
theorem dX9_grow_0 : decode cX9_grow 0 = .ok (.iconst 0, 1) := by decide +kernel
theorem dX9_grow_1 : decode cX9_grow 1 = .ok (.istore_n 1, 1) := by decide +kernel
theorem dX9_grow_2 : decode cX9_grow 2 = .ok (.iload_n 1, 1) := by decide +kernel
theorem dX9_grow_3 : decode cX9_grow 3 = .ok (.aload_n 0, 1) := by decide +kernel
theorem dX9_grow_4 : decode cX9_grow 4 = .ok (.getfield 9, 3) := by decide +kernel
theorem dX9_grow_7 : decode cX9_grow 7 = .ok (.if_icmp .ge 37, 3) := by decide +kernel
theorem dX9_grow_10 : decode cX9_grow 10 = .ok (.aload_n 0, 1) := by decide +kernel
theorem dX9_grow_11 : decode cX9_grow 11 = .ok (.getfield 22, 3) := by decide +kernel
theorem dX9_grow_14 : decode cX9_grow 14 = .ok (.iload_n 1, 1) := by decide +kernel
theorem dX9_grow_15 : decode cX9_grow 15 = .ok (.aload_n 0, 1) := by decide +kernel
theorem dX9_grow_16 : decode cX9_grow 16 = .ok (.getfield 28, 3) := by decide +kernel
theorem dX9_grow_19 : decode cX9_grow 19 = .ok (.iload_n 1, 1) := by decide +kernel
theorem dX9_grow_20 : decode cX9_grow 20 = .ok (.iaload, 1) := by decide +kernel
theorem dX9_grow_21 : decode cX9_grow 21 = .ok (.aload_n 0, 1) := by decide +kernel
theorem dX9_grow_22 : decode cX9_grow 22 = .ok (.getfield 22, 3) := by decide +kernel
theorem dX9_grow_25 : decode cX9_grow 25 = .ok (.iload_n 1, 1) := by decide +kernel
theorem dX9_grow_26 : decode cX9_grow 26 = .ok (.iaload, 1) := by decide +kernel
theorem dX9_grow_27 : decode cX9_grow 27 = .ok (.aload_n 0, 1) := by decide +kernel
theorem dX9_grow_28 : decode cX9_grow 28 = .ok (.getfield 25, 3) := by decide +kernel
theorem dX9_grow_31 : decode cX9_grow 31 = .ok (.iload_n 1, 1) := by decide +kernel
theorem dX9_grow_32 : decode cX9_grow 32 = .ok (.iaload, 1) := by decide +kernel
theorem dX9_grow_33 : decode cX9_grow 33 = .ok (.iadd, 1) := by decide +kernel
theorem dX9_grow_34 : decode cX9_grow 34 = .ok (.invokestatic 50, 3) := by decide +kernel
theorem dX9_grow_37 : decode cX9_grow 37 = .ok (.iastore, 1) := by decide +kernel
theorem dX9_grow_38 : decode cX9_grow 38 = .ok (.iinc 1 1, 3) := by decide +kernel
theorem dX9_grow_41 : decode cX9_grow 41 = .ok (.goto (-39), 3) := by decide +kernel
theorem dX9_grow_44 : decode cX9_grow 44 = .ok (.return_, 1) := by decide +kernel
theorem dX9_graze_0 : decode cX9_graze 0 = .ok (.iload_n 2, 1) := by decide +kernel
theorem dX9_graze_1 : decode cX9_graze 1 = .ok (.aload_n 0, 1) := by decide +kernel
theorem dX9_graze_2 : decode cX9_graze 2 = .ok (.iload_n 1, 1) := by decide +kernel
theorem dX9_graze_3 : decode cX9_graze 3 = .ok (.invokevirtual 56, 3) := by decide +kernel
theorem dX9_graze_6 : decode cX9_graze 6 = .ok (.invokestatic 50, 3) := by decide +kernel
theorem dX9_graze_9 : decode cX9_graze 9 = .ok (.istore_n 3, 1) := by decide +kernel
theorem dX9_graze_10 : decode cX9_graze 10 = .ok (.aload_n 0, 1) := by decide +kernel
theorem dX9_graze_11 : decode cX9_graze 11 = .ok (.iload_n 1, 1) := by decide +kernel
theorem dX9_graze_12 : decode cX9_graze 12 = .ok (.invokevirtual 45, 3) := by decide +kernel
theorem dX9_graze_15 : decode cX9_graze 15 = .ok (.ifCond .eq 13, 3) := by decide +kernel
theorem dX9_graze_18 : decode cX9_graze 18 = .ok (.aload_n 0, 1) := by decide +kernel
theorem dX9_graze_19 : decode cX9_graze 19 = .ok (.getfield 22, 3) := by decide +kernel
theorem dX9_graze_22 : decode cX9_graze 22 = .ok (.iload_n 1, 1) := by decide +kernel
theorem dX9_graze_23 : decode cX9_graze 23 = .ok (.dup2, 1) := by decide +kernel
theorem dX9_graze_24 : decode cX9_graze 24 = .ok (.iaload, 1) := by decide +kernel
theorem dX9_graze_25 : decode cX9_graze 25 = .ok (.iload_n 3, 1) := by decide +kernel
theorem dX9_graze_26 : decode cX9_graze 26 = .ok (.isub, 1) := by decide +kernel
theorem dX9_graze_27 : decode cX9_graze 27 = .ok (.iastore, 1) := by decide +kernel
theorem dX9_graze_28 : decode cX9_graze 28 = .ok (.iload_n 3, 1) := by decide +kernel
theorem dX9_graze_29 : decode cX9_graze 29 = .ok (.ireturn, 1) := by decide +kernel
theorem dX9_noteLeft_0 : decode cX9_noteLeft 0 = .ok (.aload_n 0, 1) := by decide +kernel
theorem dX9_noteLeft_1 : decode cX9_noteLeft 1 = .ok (.iload_n 1, 1) := by decide +kernel
theorem dX9_noteLeft_2 : decode cX9_noteLeft 2 = .ok (.invokevirtual 45, 3) := by decide +kernel
theorem dX9_noteLeft_5 : decode cX9_noteLeft 5 = .ok (.ifCond .eq 13, 3) := by decide +kernel
theorem dX9_noteLeft_8 : decode cX9_noteLeft 8 = .ok (.aload_n 0, 1) := by decide +kernel
theorem dX9_noteLeft_9 : decode cX9_noteLeft 9 = .ok (.getfield 31, 3) := by decide +kernel
theorem dX9_noteLeft_12 : decode cX9_noteLeft 12 = .ok (.iload_n 1, 1) := by decide +kernel
theorem dX9_noteLeft_13 : decode cX9_noteLeft 13 = .ok (.dup2, 1) := by decide +kernel
theorem dX9_noteLeft_14 : decode cX9_noteLeft 14 = .ok (.iaload, 1) := by decide +kernel
theorem dX9_noteLeft_15 : decode cX9_noteLeft 15 = .ok (.iload_n 2, 1) := by decide +kernel
theorem dX9_noteLeft_16 : decode cX9_noteLeft 16 = .ok (.iadd, 1) := by decide +kernel
theorem dX9_noteLeft_17 : decode cX9_noteLeft 17 = .ok (.iastore, 1) := by decide +kernel
theorem dX9_noteLeft_18 : decode cX9_noteLeft 18 = .ok (.return_, 1) := by decide +kernel
theorem dX9_tell_0 : decode cX9_tell 0 = .ok (.aload_n 0, 1) := by decide +kernel
theorem dX9_tell_1 : decode cX9_tell 1 = .ok (.iload_n 1, 1) := by decide +kernel
theorem dX9_tell_2 : decode cX9_tell 2 = .ok (.invokevirtual 45, 3) := by decide +kernel
theorem dX9_tell_5 : decode cX9_tell 5 = .ok (.ifCond .ne 5, 3) := by decide +kernel
theorem dX9_tell_8 : decode cX9_tell 8 = .ok (.iconst (-1), 1) := by decide +kernel
theorem dX9_tell_9 : decode cX9_tell 9 = .ok (.ireturn, 1) := by decide +kernel
theorem dX9_tell_10 : decode cX9_tell 10 = .ok (.iload_n 2, 1) := by decide +kernel
theorem dX9_tell_11 : decode cX9_tell 11 = .ok (.tableswitch 68 0 4 #[33, 40, 47, 54, 61], 33) := by decide +kernel
theorem dX9_tell_44 : decode cX9_tell 44 = .ok (.aload_n 0, 1) := by decide +kernel
theorem dX9_tell_45 : decode cX9_tell 45 = .ok (.getfield 22, 3) := by decide +kernel
theorem dX9_tell_48 : decode cX9_tell 48 = .ok (.iload_n 1, 1) := by decide +kernel
theorem dX9_tell_49 : decode cX9_tell 49 = .ok (.iaload, 1) := by decide +kernel
theorem dX9_tell_50 : decode cX9_tell 50 = .ok (.ireturn, 1) := by decide +kernel
theorem dX9_tell_51 : decode cX9_tell 51 = .ok (.aload_n 0, 1) := by decide +kernel
theorem dX9_tell_52 : decode cX9_tell 52 = .ok (.getfield 25, 3) := by decide +kernel
theorem dX9_tell_55 : decode cX9_tell 55 = .ok (.iload_n 1, 1) := by decide +kernel
theorem dX9_tell_56 : decode cX9_tell 56 = .ok (.iaload, 1) := by decide +kernel
theorem dX9_tell_57 : decode cX9_tell 57 = .ok (.ireturn, 1) := by decide +kernel
theorem dX9_tell_58 : decode cX9_tell 58 = .ok (.aload_n 0, 1) := by decide +kernel
theorem dX9_tell_59 : decode cX9_tell 59 = .ok (.getfield 28, 3) := by decide +kernel
theorem dX9_tell_62 : decode cX9_tell 62 = .ok (.iload_n 1, 1) := by decide +kernel
theorem dX9_tell_63 : decode cX9_tell 63 = .ok (.iaload, 1) := by decide +kernel
theorem dX9_tell_64 : decode cX9_tell 64 = .ok (.ireturn, 1) := by decide +kernel
theorem dX9_tell_65 : decode cX9_tell 65 = .ok (.aload_n 0, 1) := by decide +kernel
theorem dX9_tell_66 : decode cX9_tell 66 = .ok (.getfield 19, 3) := by decide +kernel
theorem dX9_tell_69 : decode cX9_tell 69 = .ok (.iload_n 1, 1) := by decide +kernel
theorem dX9_tell_70 : decode cX9_tell 70 = .ok (.iaload, 1) := by decide +kernel
theorem dX9_tell_71 : decode cX9_tell 71 = .ok (.ireturn, 1) := by decide +kernel
theorem dX9_tell_72 : decode cX9_tell 72 = .ok (.aload_n 0, 1) := by decide +kernel
theorem dX9_tell_73 : decode cX9_tell 73 = .ok (.getfield 31, 3) := by decide +kernel
theorem dX9_tell_76 : decode cX9_tell 76 = .ok (.iload_n 1, 1) := by decide +kernel
theorem dX9_tell_77 : decode cX9_tell 77 = .ok (.iaload, 1) := by decide +kernel
theorem dX9_tell_78 : decode cX9_tell 78 = .ok (.ireturn, 1) := by decide +kernel
theorem dX9_tell_79 : decode cX9_tell 79 = .ok (.iconst (-1), 1) := by decide +kernel
theorem dX9_tell_80 : decode cX9_tell 80 = .ok (.ireturn, 1) := by decide +kernel
theorem dX10_init_0 : decode cX10_init 0 = .ok (.aload_n 0, 1) := by decide +kernel
theorem dX10_init_1 : decode cX10_init 1 = .ok (.invokespecial 1, 3) := by decide +kernel
theorem dX10_init_4 : decode cX10_init 4 = .ok (.aload_n 0, 1) := by decide +kernel
theorem dX10_init_5 : decode cX10_init 5 = .ok (.new 7, 3) := by decide +kernel
theorem dX10_init_8 : decode cX10_init 8 = .ok (.dup, 1) := by decide +kernel
theorem dX10_init_9 : decode cX10_init 9 = .ok (.invokespecial 9, 3) := by decide +kernel
theorem dX10_init_12 : decode cX10_init 12 = .ok (.putfield 10, 3) := by decide +kernel
theorem dX10_init_15 : decode cX10_init 15 = .ok (.aload_n 0, 1) := by decide +kernel
theorem dX10_init_16 : decode cX10_init 16 = .ok (.new 16, 3) := by decide +kernel
theorem dX10_init_19 : decode cX10_init 19 = .ok (.dup, 1) := by decide +kernel
theorem dX10_init_20 : decode cX10_init 20 = .ok (.invokespecial 18, 3) := by decide +kernel
theorem dX10_init_23 : decode cX10_init 23 = .ok (.putfield 19, 3) := by decide +kernel
theorem dX10_init_26 : decode cX10_init 26 = .ok (.aload_n 0, 1) := by decide +kernel
theorem dX10_init_27 : decode cX10_init 27 = .ok (.new 23, 3) := by decide +kernel
theorem dX10_init_30 : decode cX10_init 30 = .ok (.dup, 1) := by decide +kernel
theorem dX10_init_31 : decode cX10_init 31 = .ok (.invokespecial 25, 3) := by decide +kernel
theorem dX10_init_34 : decode cX10_init 34 = .ok (.putfield 26, 3) := by decide +kernel
theorem dX10_init_37 : decode cX10_init 37 = .ok (.aload_n 0, 1) := by decide +kernel
theorem dX10_init_38 : decode cX10_init 38 = .ok (.bipush 6, 2) := by decide +kernel
theorem dX10_init_40 : decode cX10_init 40 = .ok (.anewarray 30, 3) := by decide +kernel
theorem dX10_init_43 : decode cX10_init 43 = .ok (.putfield 32, 3) := by decide +kernel
theorem dX10_init_46 : decode cX10_init 46 = .ok (.aload_n 0, 1) := by decide +kernel
theorem dX10_init_47 : decode cX10_init 47 = .ok (.sipush 500, 3) := by decide +kernel
theorem dX10_init_50 : decode cX10_init 50 = .ok (.newarray .byte, 2) := by decide +kernel
theorem dX10_init_52 : decode cX10_init 52 = .ok (.putfield 36, 3) := by decide +kernel
theorem dX10_init_55 : decode cX10_init 55 = .ok (.aload_n 0, 1) := by decide +kernel
theorem dX10_init_56 : decode cX10_init 56 = .ok (.new 40, 3) := by decide +kernel
theorem dX10_init_59 : decode cX10_init 59 = .ok (.dup, 1) := by decide +kernel
theorem dX10_init_60 : decode cX10_init 60 = .ok (.invokespecial 42, 3) := by decide +kernel
theorem dX10_init_63 : decode cX10_init 63 = .ok (.putfield 43, 3) := by decide +kernel
theorem dX10_init_66 : decode cX10_init 66 = .ok (.aload_n 0, 1) := by decide +kernel
theorem dX10_init_67 : decode cX10_init 67 = .ok (.new 47, 3) := by decide +kernel
theorem dX10_init_70 : decode cX10_init 70 = .ok (.dup, 1) := by decide +kernel
theorem dX10_init_71 : decode cX10_init 71 = .ok (.invokespecial 49, 3) := by decide +kernel
theorem dX10_init_74 : decode cX10_init 74 = .ok (.putfield 50, 3) := by decide +kernel
theorem dX10_init_77 : decode cX10_init 77 = .ok (.aload_n 0, 1) := by decide +kernel
theorem dX10_init_78 : decode cX10_init 78 = .ok (.iconst 0, 1) := by decide +kernel
theorem dX10_init_79 : decode cX10_init 79 = .ok (.putfield 54, 3) := by decide +kernel
theorem dX10_init_82 : decode cX10_init 82 = .ok (.aload_n 0, 1) := by decide +kernel
theorem dX10_init_83 : decode cX10_init 83 = .ok (.iconst 0, 1) := by decide +kernel
theorem dX10_init_84 : decode cX10_init 84 = .ok (.putfield 58, 3) := by decide +kernel
theorem dX10_init_87 : decode cX10_init 87 = .ok (.aload_n 0, 1) := by decide +kernel
theorem dX10_init_88 : decode cX10_init 88 = .ok (.iconst 0, 1) := by decide +kernel
theorem dX10_init_89 : decode cX10_init 89 = .ok (.putfield 61, 3) := by decide +kernel
theorem dX10_init_92 : decode cX10_init 92 = .ok (.aload_n 0, 1) := by decide +kernel
theorem dX10_init_93 : decode cX10_init 93 = .ok (.iconst (-1), 1) := by decide +kernel
theorem dX10_init_94 : decode cX10_init 94 = .ok (.putfield 64, 3) := by decide +kernel
theorem dX10_init_97 : decode cX10_init 97 = .ok (.aload_n 0, 1) := by decide +kernel
theorem dX10_init_98 : decode cX10_init 98 = .ok (.iconst 0, 1) := by decide +kernel
theorem dX10_init_99 : decode cX10_init 99 = .ok (.putfield 67, 3) := by decide +kernel
theorem dX10_init_102 : decode cX10_init 102 = .ok (.return_, 1) := by decide +kernel
theorem dX10_stance_0 : decode cX10_stance 0 = .ok (.aload_n 0, 1) := by decide +kernel
theorem dX10_stance_1 : decode cX10_stance 1 = .ok (.getfield 54, 3) := by decide +kernel
theorem dX10_stance_4 : decode cX10_stance 4 = .ok (.ifCond .gt 10, 3) := by decide +kernel
theorem dX10_stance_7 : decode cX10_stance 7 = .ok (.iload_n 1, 1) := by decide +kernel
theorem dX10_stance_8 : decode cX10_stance 8 = .ok (.invokestatic 70, 3) := by decide +kernel
theorem dX10_stance_11 : decode cX10_stance 11 = .ok (.ifCond .ne 5, 3) := by decide +kernel
theorem dX10_stance_14 : decode cX10_stance 14 = .ok (.iconst (-1), 1) := by decide +kernel
theorem dX10_stance_15 : decode cX10_stance 15 = .ok (.ireturn, 1) := by decide +kernel
theorem dX10_stance_16 : decode cX10_stance 16 = .ok (.aload_n 0, 1) := by decide +kernel
theorem dX10_stance_17 : decode cX10_stance 17 = .ok (.getfield 10, 3) := by decide +kernel
theorem dX10_stance_20 : decode cX10_stance 20 = .ok (.iload_n 1, 1) := by decide +kernel
theorem dX10_stance_21 : decode cX10_stance 21 = .ok (.invokevirtual 74, 3) := by decide +kernel
theorem dX10_stance_24 : decode cX10_stance 24 = .ok (.ireturn, 1) := by decide +kernel
theorem dX10_first_0 : decode cX10_first 0 = .ok (.aload_n 0, 1) := by decide +kernel
theorem dX10_first_1 : decode cX10_first 1 = .ok (.getfield 54, 3) := by decide +kernel
theorem dX10_first_4 : decode cX10_first 4 = .ok (.ifCond .gt 10, 3) := by decide +kernel
theorem dX10_first_7 : decode cX10_first 7 = .ok (.iload_n 1, 1) := by decide +kernel
theorem dX10_first_8 : decode cX10_first 8 = .ok (.invokestatic 70, 3) := by decide +kernel
theorem dX10_first_11 : decode cX10_first 11 = .ok (.ifCond .ne 5, 3) := by decide +kernel
theorem dX10_first_14 : decode cX10_first 14 = .ok (.iconst 0, 1) := by decide +kernel
theorem dX10_first_15 : decode cX10_first 15 = .ok (.ireturn, 1) := by decide +kernel
theorem dX10_first_16 : decode cX10_first 16 = .ok (.aload_n 0, 1) := by decide +kernel
theorem dX10_first_17 : decode cX10_first 17 = .ok (.getfield 10, 3) := by decide +kernel
theorem dX10_first_20 : decode cX10_first 20 = .ok (.iload_n 1, 1) := by decide +kernel
theorem dX10_first_21 : decode cX10_first 21 = .ok (.invokevirtual 78, 3) := by decide +kernel
theorem dX10_first_24 : decode cX10_first 24 = .ok (.iconst 1, 1) := by decide +kernel
theorem dX10_first_25 : decode cX10_first 25 = .ok (.ireturn, 1) := by decide +kernel
theorem dX10_grass_0 : decode cX10_grass 0 = .ok (.aload_n 0, 1) := by decide +kernel
theorem dX10_grass_1 : decode cX10_grass 1 = .ok (.getfield 10, 3) := by decide +kernel
theorem dX10_grass_4 : decode cX10_grass 4 = .ok (.iload_n 1, 1) := by decide +kernel
theorem dX10_grass_5 : decode cX10_grass 5 = .ok (.iload_n 2, 1) := by decide +kernel
theorem dX10_grass_6 : decode cX10_grass 6 = .ok (.iload_n 3, 1) := by decide +kernel
theorem dX10_grass_7 : decode cX10_grass 7 = .ok (.iload 4, 2) := by decide +kernel
theorem dX10_grass_9 : decode cX10_grass 9 = .ok (.invokevirtual 82, 3) := by decide +kernel
theorem dX10_grass_12 : decode cX10_grass 12 = .ok (.ireturn, 1) := by decide +kernel
theorem dX10_herd_0 : decode cX10_herd 0 = .ok (.iload_n 1, 1) := by decide +kernel
theorem dX10_herd_1 : decode cX10_herd 1 = .ok (.iconst 1, 1) := by decide +kernel
theorem dX10_herd_2 : decode cX10_herd 2 = .ok (.sipush 500, 3) := by decide +kernel
theorem dX10_herd_5 : decode cX10_herd 5 = .ok (.invokestatic 86, 3) := by decide +kernel
theorem dX10_herd_8 : decode cX10_herd 8 = .ok (.ifCond .eq 44, 3) := by decide +kernel
theorem dX10_herd_11 : decode cX10_herd 11 = .ok (.iload_n 2, 1) := by decide +kernel
theorem dX10_herd_12 : decode cX10_herd 12 = .ok (.bipush 100, 2) := by decide +kernel
theorem dX10_herd_14 : decode cX10_herd 14 = .ok (.sipush 600, 3) := by decide +kernel
theorem dX10_herd_17 : decode cX10_herd 17 = .ok (.invokestatic 86, 3) := by decide +kernel
theorem dX10_herd_20 : decode cX10_herd 20 = .ok (.ifCond .eq 32, 3) := by decide +kernel
theorem dX10_herd_23 : decode cX10_herd 23 = .ok (.iload_n 3, 1) := by decide +kernel
theorem dX10_herd_24 : decode cX10_herd 24 = .ok (.iconst 1, 1) := by decide +kernel
theorem dX10_herd_25 : decode cX10_herd 25 = .ok (.bipush 20, 2) := by decide +kernel
theorem dX10_herd_27 : decode cX10_herd 27 = .ok (.invokestatic 86, 3) := by decide +kernel
theorem dX10_herd_30 : decode cX10_herd 30 = .ok (.ifCond .eq 22, 3) := by decide +kernel
theorem dX10_herd_33 : decode cX10_herd 33 = .ok (.iload 4, 2) := by decide +kernel
theorem dX10_herd_35 : decode cX10_herd 35 = .ok (.aload_n 0, 1) := by decide +kernel
theorem dX10_herd_36 : decode cX10_herd 36 = .ok (.getfield 67, 3) := by decide +kernel
theorem dX10_herd_39 : decode cX10_herd 39 = .ok (.sipush 10000, 3) := by decide +kernel
theorem dX10_herd_42 : decode cX10_herd 42 = .ok (.invokestatic 86, 3) := by decide +kernel
theorem dX10_herd_45 : decode cX10_herd 45 = .ok (.ifCond .eq 7, 3) := by decide +kernel
theorem dX10_herd_48 : decode cX10_herd 48 = .ok (.iconst 1, 1) := by decide +kernel
theorem dX10_herd_49 : decode cX10_herd 49 = .ok (.goto 4, 3) := by decide +kernel
theorem dX10_herd_52 : decode cX10_herd 52 = .ok (.iconst 0, 1) := by decide +kernel
theorem dX10_herd_53 : decode cX10_herd 53 = .ok (.istore 5, 2) := by decide +kernel
theorem dX10_herd_55 : decode cX10_herd 55 = .ok (.iload 5, 2) := by decide +kernel
theorem dX10_herd_57 : decode cX10_herd 57 = .ok (.ifCond .eq 12, 3) := by decide +kernel
theorem dX10_herd_60 : decode cX10_herd 60 = .ok (.aload_n 0, 1) := by decide +kernel
theorem dX10_herd_61 : decode cX10_herd 61 = .ok (.getfield 54, 3) := by decide +kernel
theorem dX10_herd_64 : decode cX10_herd 64 = .ok (.bipush 6, 2) := by decide +kernel
theorem dX10_herd_66 : decode cX10_herd 66 = .ok (.if_icmp .lt 5, 3) := by decide +kernel
theorem dX10_herd_69 : decode cX10_herd 69 = .ok (.iconst (-1), 1) := by decide +kernel
theorem dX10_herd_70 : decode cX10_herd 70 = .ok (.ireturn, 1) := by decide +kernel
theorem dX10_herd_71 : decode cX10_herd 71 = .ok (.aload_n 0, 1) := by decide +kernel
theorem dX10_herd_72 : decode cX10_herd 72 = .ok (.getfield 32, 3) := by decide +kernel
theorem dX10_herd_75 : decode cX10_herd 75 = .ok (.aload_n 0, 1) := by decide +kernel
theorem dX10_herd_76 : decode cX10_herd 76 = .ok (.getfield 54, 3) := by decide +kernel
theorem dX10_herd_79 : decode cX10_herd 79 = .ok (.new 30, 3) := by decide +kernel
theorem dX10_herd_82 : decode cX10_herd 82 = .ok (.dup, 1) := by decide +kernel
theorem dX10_herd_83 : decode cX10_herd 83 = .ok (.iload_n 1, 1) := by decide +kernel
theorem dX10_herd_84 : decode cX10_herd 84 = .ok (.iload_n 2, 1) := by decide +kernel
theorem dX10_herd_85 : decode cX10_herd 85 = .ok (.iload_n 3, 1) := by decide +kernel
theorem dX10_herd_86 : decode cX10_herd 86 = .ok (.iload 4, 2) := by decide +kernel
theorem dX10_herd_88 : decode cX10_herd 88 = .ok (.invokespecial 90, 3) := by decide +kernel
theorem dX10_herd_91 : decode cX10_herd 91 = .ok (.aastore, 1) := by decide +kernel
theorem dX10_herd_92 : decode cX10_herd 92 = .ok (.aload_n 0, 1) := by decide +kernel
theorem dX10_herd_93 : decode cX10_herd 93 = .ok (.dup, 1) := by decide +kernel
theorem dX10_herd_94 : decode cX10_herd 94 = .ok (.getfield 54, 3) := by decide +kernel
theorem dX10_herd_97 : decode cX10_herd 97 = .ok (.iconst 1, 1) := by decide +kernel
theorem dX10_herd_98 : decode cX10_herd 98 = .ok (.iadd, 1) := by decide +kernel
theorem dX10_herd_99 : decode cX10_herd 99 = .ok (.putfield 54, 3) := by decide +kernel
theorem dX10_herd_102 : decode cX10_herd 102 = .ok (.aload_n 0, 1) := by decide +kernel
theorem dX10_herd_103 : decode cX10_herd 103 = .ok (.getfield 54, 3) := by decide +kernel
theorem dX10_herd_106 : decode cX10_herd 106 = .ok (.iconst 1, 1) := by decide +kernel
theorem dX10_herd_107 : decode cX10_herd 107 = .ok (.isub, 1) := by decide +kernel
theorem dX10_herd_108 : decode cX10_herd 108 = .ok (.ireturn, 1) := by decide +kernel
theorem dX10_letter_0 : decode cX10_letter 0 = .ok (.aload_n 0, 1) := by decide +kernel
theorem dX10_letter_1 : decode cX10_letter 1 = .ok (.getfield 19, 3) := by decide +kernel
theorem dX10_letter_4 : decode cX10_letter 4 = .ok (.iload_n 1, 1) := by decide +kernel
theorem dX10_letter_5 : decode cX10_letter 5 = .ok (.aload_n 0, 1) := by decide +kernel
theorem dX10_letter_6 : decode cX10_letter 6 = .ok (.getfield 67, 3) := by decide +kernel
theorem dX10_letter_9 : decode cX10_letter 9 = .ok (.invokevirtual 93, 3) := by decide +kernel
theorem dX10_letter_12 : decode cX10_letter 12 = .ok (.ireturn, 1) := by decide +kernel
theorem dX10_known_0 : decode cX10_known 0 = .ok (.aload_n 0, 1) := by decide +kernel
theorem dX10_known_1 : decode cX10_known 1 = .ok (.getfield 10, 3) := by decide +kernel
theorem dX10_known_4 : decode cX10_known 4 = .ok (.iload_n 1, 1) := by decide +kernel
theorem dX10_known_5 : decode cX10_known 5 = .ok (.invokevirtual 97, 3) := by decide +kernel
theorem dX10_known_8 : decode cX10_known 8 = .ok (.ifCond .eq 11, 3) := by decide +kernel
theorem dX10_known_11 : decode cX10_known 11 = .ok (.aload_n 0, 1) := by decide +kernel
theorem dX10_known_12 : decode cX10_known 12 = .ok (.iload_n 1, 1) := by decide +kernel
theorem dX10_known_13 : decode cX10_known 13 = .ok (.invokevirtual 100, 3) := by decide +kernel
theorem dX10_known_16 : decode cX10_known 16 = .ok (.goto 4, 3) := by decide +kernel
theorem dX10_known_19 : decode cX10_known 19 = .ok (.iconst (-1), 1) := by decide +kernel
theorem dX10_known_20 : decode cX10_known 20 = .ok (.ireturn, 1) := by decide +kernel
theorem dX10_feed_0 : decode cX10_feed 0 = .ok (.aload_n 0, 1) := by decide +kernel
theorem dX10_feed_1 : decode cX10_feed 1 = .ok (.getfield 58, 3) := by decide +kernel
theorem dX10_feed_4 : decode cX10_feed 4 = .ok (.bipush 20, 2) := by decide +kernel
theorem dX10_feed_6 : decode cX10_feed 6 = .ok (.iadd, 1) := by decide +kernel
theorem dX10_feed_7 : decode cX10_feed 7 = .ok (.sipush 500, 3) := by decide +kernel
theorem dX10_feed_10 : decode cX10_feed 10 = .ok (.if_icmp .le 5, 3) := by decide +kernel
theorem dX10_feed_13 : decode cX10_feed 13 = .ok (.iconst (-1), 1) := by decide +kernel
theorem dX10_feed_14 : decode cX10_feed 14 = .ok (.ireturn, 1) := by decide +kernel
theorem dX10_feed_15 : decode cX10_feed 15 = .ok (.aload_n 0, 1) := by decide +kernel
theorem dX10_feed_16 : decode cX10_feed 16 = .ok (.iload_n 1, 1) := by decide +kernel
theorem dX10_feed_17 : decode cX10_feed 17 = .ok (.invokevirtual 103, 3) := by decide +kernel
theorem dX10_feed_20 : decode cX10_feed 20 = .ok (.aload_n 0, 1) := by decide +kernel
theorem dX10_feed_21 : decode cX10_feed 21 = .ok (.iload_n 2, 1) := by decide +kernel
theorem dX10_feed_22 : decode cX10_feed 22 = .ok (.invokevirtual 103, 3) := by decide +kernel
theorem dX10_feed_25 : decode cX10_feed 25 = .ok (.aload_n 0, 1) := by decide +kernel
theorem dX10_feed_26 : decode cX10_feed 26 = .ok (.iload_n 3, 1) := by decide +kernel
theorem dX10_feed_27 : decode cX10_feed 27 = .ok (.invokevirtual 103, 3) := by decide +kernel
theorem dX10_feed_30 : decode cX10_feed 30 = .ok (.aload_n 0, 1) := by decide +kernel
theorem dX10_feed_31 : decode cX10_feed 31 = .ok (.iload 4, 2) := by decide +kernel
theorem dX10_feed_33 : decode cX10_feed 33 = .ok (.invokevirtual 103, 3) := by decide +kernel
theorem dX10_feed_36 : decode cX10_feed 36 = .ok (.aload_n 0, 1) := by decide +kernel
theorem dX10_feed_37 : decode cX10_feed 37 = .ok (.iload 5, 2) := by decide +kernel
theorem dX10_feed_39 : decode cX10_feed 39 = .ok (.invokevirtual 103, 3) := by decide +kernel
theorem dX10_feed_42 : decode cX10_feed 42 = .ok (.aload_n 0, 1) := by decide +kernel
theorem dX10_feed_43 : decode cX10_feed 43 = .ok (.getfield 58, 3) := by decide +kernel
theorem dX10_feed_46 : decode cX10_feed 46 = .ok (.ireturn, 1) := by decide +kernel
theorem dX10_end_0 : decode cX10_end 0 = .ok (.iload_n 1, 1) := by decide +kernel
theorem dX10_end_1 : decode cX10_end 1 = .ok (.iconst 0, 1) := by decide +kernel
theorem dX10_end_2 : decode cX10_end 2 = .ok (.aload_n 0, 1) := by decide +kernel
theorem dX10_end_3 : decode cX10_end 3 = .ok (.getfield 58, 3) := by decide +kernel
theorem dX10_end_6 : decode cX10_end 6 = .ok (.invokestatic 86, 3) := by decide +kernel
theorem dX10_end_9 : decode cX10_end 9 = .ok (.ifCond .ne 5, 3) := by decide +kernel
theorem dX10_end_12 : decode cX10_end 12 = .ok (.iconst (-1), 1) := by decide +kernel
theorem dX10_end_13 : decode cX10_end 13 = .ok (.ireturn, 1) := by decide +kernel
theorem dX10_end_14 : decode cX10_end 14 = .ok (.aload_n 0, 1) := by decide +kernel
theorem dX10_end_15 : decode cX10_end 15 = .ok (.iload_n 1, 1) := by decide +kernel
theorem dX10_end_16 : decode cX10_end 16 = .ok (.putfield 58, 3) := by decide +kernel
theorem dX10_end_19 : decode cX10_end 19 = .ok (.iload_n 1, 1) := by decide +kernel
theorem dX10_end_20 : decode cX10_end 20 = .ok (.ireturn, 1) := by decide +kernel
theorem dX10_orders_0 : decode cX10_orders 0 = .ok (.aload_n 0, 1) := by decide +kernel
theorem dX10_orders_1 : decode cX10_orders 1 = .ok (.iload_n 1, 1) := by decide +kernel
theorem dX10_orders_2 : decode cX10_orders 2 = .ok (.invokevirtual 106, 3) := by decide +kernel
theorem dX10_orders_5 : decode cX10_orders 5 = .ok (.astore_n 2, 1) := by decide +kernel
theorem dX10_orders_6 : decode cX10_orders 6 = .ok (.aload_n 2, 1) := by decide +kernel
theorem dX10_orders_7 : decode cX10_orders 7 = .ok (.ifnonnull 6, 3) := by decide +kernel
theorem dX10_orders_10 : decode cX10_orders 10 = .ok (.bipush (-2), 2) := by decide +kernel
theorem dX10_orders_12 : decode cX10_orders 12 = .ok (.ireturn, 1) := by decide +kernel
theorem dX10_orders_13 : decode cX10_orders 13 = .ok (.new 110, 3) := by decide +kernel
theorem dX10_orders_16 : decode cX10_orders 16 = .ok (.dup, 1) := by decide +kernel
theorem dX10_orders_17 : decode cX10_orders 17 = .ok (.aload_n 0, 1) := by decide +kernel
theorem dX10_orders_18 : decode cX10_orders 18 = .ok (.getfield 36, 3) := by decide +kernel
theorem dX10_orders_21 : decode cX10_orders 21 = .ok (.aload_n 0, 1) := by decide +kernel
theorem dX10_orders_22 : decode cX10_orders 22 = .ok (.getfield 58, 3) := by decide +kernel
theorem dX10_orders_25 : decode cX10_orders 25 = .ok (.aload_n 0, 1) := by decide +kernel
theorem dX10_orders_26 : decode cX10_orders 26 = .ok (.getfield 50, 3) := by decide +kernel
theorem dX10_orders_29 : decode cX10_orders 29 = .ok (.invokespecial 112, 3) := by decide +kernel
theorem dX10_orders_32 : decode cX10_orders 32 = .ok (.astore_n 3, 1) := by decide +kernel
theorem dX10_orders_33 : decode cX10_orders 33 = .ok (.aload_n 3, 1) := by decide +kernel
theorem dX10_orders_34 : decode cX10_orders 34 = .ok (.invokevirtual 115, 3) := by decide +kernel
theorem dX10_orders_37 : decode cX10_orders 37 = .ok (.istore 4, 2) := by decide +kernel
theorem dX10_orders_39 : decode cX10_orders 39 = .ok (.aload_n 0, 1) := by decide +kernel
theorem dX10_orders_40 : decode cX10_orders 40 = .ok (.aload_n 3, 1) := by decide +kernel
theorem dX10_orders_41 : decode cX10_orders 41 = .ok (.getfield 119, 3) := by decide +kernel
theorem dX10_orders_44 : decode cX10_orders 44 = .ok (.putfield 61, 3) := by decide +kernel
theorem dX10_orders_47 : decode cX10_orders 47 = .ok (.aload_n 0, 1) := by decide +kernel
theorem dX10_orders_48 : decode cX10_orders 48 = .ok (.aload_n 3, 1) := by decide +kernel
theorem dX10_orders_49 : decode cX10_orders 49 = .ok (.getfield 122, 3) := by decide +kernel
theorem dX10_orders_52 : decode cX10_orders 52 = .ok (.putfield 64, 3) := by decide +kernel
theorem dX10_orders_55 : decode cX10_orders 55 = .ok (.aload_n 0, 1) := by decide +kernel
theorem dX10_orders_56 : decode cX10_orders 56 = .ok (.iconst 0, 1) := by decide +kernel
theorem dX10_orders_57 : decode cX10_orders 57 = .ok (.putfield 58, 3) := by decide +kernel
theorem dX10_orders_60 : decode cX10_orders 60 = .ok (.iload 4, 2) := by decide +kernel
theorem dX10_orders_62 : decode cX10_orders 62 = .ok (.ifCond .ne 5, 3) := by decide +kernel
theorem dX10_orders_65 : decode cX10_orders 65 = .ok (.iconst (-1), 1) := by decide +kernel
theorem dX10_orders_66 : decode cX10_orders 66 = .ok (.ireturn, 1) := by decide +kernel
theorem dX10_orders_67 : decode cX10_orders 67 = .ok (.aload_n 2, 1) := by decide +kernel
theorem dX10_orders_68 : decode cX10_orders 68 = .ok (.getfield 125, 3) := by decide +kernel
theorem dX10_orders_71 : decode cX10_orders 71 = .ok (.astore 5, 2) := by decide +kernel
theorem dX10_orders_73 : decode cX10_orders 73 = .ok (.aload_n 2, 1) := by decide +kernel
theorem dX10_orders_74 : decode cX10_orders 74 = .ok (.aload_n 0, 1) := by decide +kernel
theorem dX10_orders_75 : decode cX10_orders 75 = .ok (.getfield 50, 3) := by decide +kernel
theorem dX10_orders_78 : decode cX10_orders 78 = .ok (.putfield 125, 3) := by decide +kernel
theorem dX10_orders_81 : decode cX10_orders 81 = .ok (.aload_n 0, 1) := by decide +kernel
theorem dX10_orders_82 : decode cX10_orders 82 = .ok (.aload 5, 2) := by decide +kernel
theorem dX10_orders_84 : decode cX10_orders 84 = .ok (.putfield 50, 3) := by decide +kernel
theorem dX10_orders_87 : decode cX10_orders 87 = .ok (.aload_n 2, 1) := by decide +kernel
theorem dX10_orders_88 : decode cX10_orders 88 = .ok (.getfield 125, 3) := by decide +kernel
theorem dX10_orders_91 : decode cX10_orders 91 = .ok (.getfield 128, 3) := by decide +kernel
theorem dX10_orders_94 : decode cX10_orders 94 = .ok (.ireturn, 1) := by decide +kernel
theorem dX10_fault_0 : decode cX10_fault 0 = .ok (.iload_n 1, 1) := by decide +kernel
theorem dX10_fault_1 : decode cX10_fault 1 = .ok (.lookupswitch 37 #[(0, 27), (1, 32)], 27) := by decide +kernel
theorem dX10_fault_28 : decode cX10_fault 28 = .ok (.aload_n 0, 1) := by decide +kernel
theorem dX10_fault_29 : decode cX10_fault 29 = .ok (.getfield 61, 3) := by decide +kernel
theorem dX10_fault_32 : decode cX10_fault 32 = .ok (.ireturn, 1) := by decide +kernel
theorem dX10_fault_33 : decode cX10_fault 33 = .ok (.aload_n 0, 1) := by decide +kernel
theorem dX10_fault_34 : decode cX10_fault 34 = .ok (.getfield 64, 3) := by decide +kernel
theorem dX10_fault_37 : decode cX10_fault 37 = .ok (.ireturn, 1) := by decide +kernel
theorem dX10_fault_38 : decode cX10_fault 38 = .ok (.iconst (-1), 1) := by decide +kernel
theorem dX10_fault_39 : decode cX10_fault 39 = .ok (.ireturn, 1) := by decide +kernel
theorem dX10_days_0 : decode cX10_days 0 = .ok (.iload_n 1, 1) := by decide +kernel
theorem dX10_days_1 : decode cX10_days 1 = .ok (.iconst 0, 1) := by decide +kernel
theorem dX10_days_2 : decode cX10_days 2 = .ok (.sipush 400, 3) := by decide +kernel
theorem dX10_days_5 : decode cX10_days 5 = .ok (.invokestatic 86, 3) := by decide +kernel
theorem dX10_days_8 : decode cX10_days 8 = .ok (.ifCond .ne 5, 3) := by decide +kernel
theorem dX10_days_11 : decode cX10_days 11 = .ok (.iconst (-1), 1) := by decide +kernel
theorem dX10_days_12 : decode cX10_days 12 = .ok (.ireturn, 1) := by decide +kernel
theorem dX10_days_13 : decode cX10_days 13 = .ok (.iconst 0, 1) := by decide +kernel
theorem dX10_days_14 : decode cX10_days 14 = .ok (.istore_n 2, 1) := by decide +kernel
theorem dX10_days_15 : decode cX10_days 15 = .ok (.iload_n 2, 1) := by decide +kernel
theorem dX10_days_16 : decode cX10_days 16 = .ok (.iload_n 1, 1) := by decide +kernel
theorem dX10_days_17 : decode cX10_days 17 = .ok (.if_icmp .ge 22, 3) := by decide +kernel
theorem dX10_days_20 : decode cX10_days 20 = .ok (.aload_n 0, 1) := by decide +kernel
theorem dX10_days_21 : decode cX10_days 21 = .ok (.getfield 67, 3) := by decide +kernel
theorem dX10_days_24 : decode cX10_days 24 = .ok (.ldc 131, 2) := by decide +kernel
theorem dX10_days_26 : decode cX10_days 26 = .ok (.if_icmp .ge 13, 3) := by decide +kernel
theorem dX10_days_29 : decode cX10_days 29 = .ok (.aload_n 0, 1) := by decide +kernel
theorem dX10_days_30 : decode cX10_days 30 = .ok (.invokevirtual 132, 3) := by decide +kernel
theorem dX10_days_33 : decode cX10_days 33 = .ok (.iinc 2 1, 3) := by decide +kernel
theorem dX10_days_36 : decode cX10_days 36 = .ok (.goto (-21), 3) := by decide +kernel
theorem dX10_days_39 : decode cX10_days 39 = .ok (.iload_n 2, 1) := by decide +kernel
theorem dX10_days_40 : decode cX10_days 40 = .ok (.ireturn, 1) := by decide +kernel
theorem dX10_of_0 : decode cX10_of 0 = .ok (.aload_n 0, 1) := by decide +kernel
theorem dX10_of_1 : decode cX10_of 1 = .ok (.iload_n 1, 1) := by decide +kernel
theorem dX10_of_2 : decode cX10_of 2 = .ok (.invokevirtual 106, 3) := by decide +kernel
theorem dX10_of_5 : decode cX10_of 5 = .ok (.astore_n 3, 1) := by decide +kernel
theorem dX10_of_6 : decode cX10_of 6 = .ok (.aload_n 3, 1) := by decide +kernel
theorem dX10_of_7 : decode cX10_of 7 = .ok (.ifnonnull 7, 3) := by decide +kernel
theorem dX10_of_10 : decode cX10_of 10 = .ok (.iconst (-1), 1) := by decide +kernel
theorem dX10_of_11 : decode cX10_of 11 = .ok (.goto 8, 3) := by decide +kernel
theorem dX10_of_14 : decode cX10_of 14 = .ok (.aload_n 3, 1) := by decide +kernel
theorem dX10_of_15 : decode cX10_of 15 = .ok (.iload_n 2, 1) := by decide +kernel
theorem dX10_of_16 : decode cX10_of 16 = .ok (.invokevirtual 135, 3) := by decide +kernel
theorem dX10_of_19 : decode cX10_of 19 = .ok (.ireturn, 1) := by decide +kernel
theorem dX10_at_0 : decode cX10_at 0 = .ok (.aload_n 0, 1) := by decide +kernel
theorem dX10_at_1 : decode cX10_at 1 = .ok (.getfield 10, 3) := by decide +kernel
theorem dX10_at_4 : decode cX10_at 4 = .ok (.iload_n 1, 1) := by decide +kernel
theorem dX10_at_5 : decode cX10_at 5 = .ok (.invokevirtual 97, 3) := by decide +kernel
theorem dX10_at_8 : decode cX10_at 8 = .ok (.ifCond .eq 15, 3) := by decide +kernel
theorem dX10_at_11 : decode cX10_at 11 = .ok (.aload_n 0, 1) := by decide +kernel
theorem dX10_at_12 : decode cX10_at 12 = .ok (.getfield 10, 3) := by decide +kernel
theorem dX10_at_15 : decode cX10_at 15 = .ok (.iload_n 1, 1) := by decide +kernel
theorem dX10_at_16 : decode cX10_at 16 = .ok (.iload_n 2, 1) := by decide +kernel
theorem dX10_at_17 : decode cX10_at 17 = .ok (.invokevirtual 138, 3) := by decide +kernel
theorem dX10_at_20 : decode cX10_at 20 = .ok (.goto 4, 3) := by decide +kernel
theorem dX10_at_23 : decode cX10_at 23 = .ok (.iconst (-1), 1) := by decide +kernel
theorem dX10_at_24 : decode cX10_at 24 = .ok (.ireturn, 1) := by decide +kernel
theorem dX10_gain_0 : decode cX10_gain 0 = .ok (.aload_n 0, 1) := by decide +kernel
theorem dX10_gain_1 : decode cX10_gain 1 = .ok (.iload_n 1, 1) := by decide +kernel
theorem dX10_gain_2 : decode cX10_gain 2 = .ok (.iload_n 2, 1) := by decide +kernel
theorem dX10_gain_3 : decode cX10_gain 3 = .ok (.invokevirtual 140, 3) := by decide +kernel
theorem dX10_gain_6 : decode cX10_gain 6 = .ok (.astore_n 3, 1) := by decide +kernel
theorem dX10_gain_7 : decode cX10_gain 7 = .ok (.aload_n 3, 1) := by decide +kernel
theorem dX10_gain_8 : decode cX10_gain 8 = .ok (.ifnonnull 8, 3) := by decide +kernel
theorem dX10_gain_11 : decode cX10_gain 11 = .ok (.ldc 144, 2) := by decide +kernel
theorem dX10_gain_13 : decode cX10_gain 13 = .ok (.goto 7, 3) := by decide +kernel
theorem dX10_gain_16 : decode cX10_gain 16 = .ok (.aload_n 3, 1) := by decide +kernel
theorem dX10_gain_17 : decode cX10_gain 17 = .ok (.invokevirtual 145, 3) := by decide +kernel
theorem dX10_gain_20 : decode cX10_gain 20 = .ok (.ireturn, 1) := by decide +kernel
theorem dX10_length_0 : decode cX10_length 0 = .ok (.aload_n 0, 1) := by decide +kernel
theorem dX10_length_1 : decode cX10_length 1 = .ok (.iload_n 1, 1) := by decide +kernel
theorem dX10_length_2 : decode cX10_length 2 = .ok (.iload_n 2, 1) := by decide +kernel
theorem dX10_length_3 : decode cX10_length 3 = .ok (.invokevirtual 140, 3) := by decide +kernel
theorem dX10_length_6 : decode cX10_length 6 = .ok (.astore_n 3, 1) := by decide +kernel
theorem dX10_length_7 : decode cX10_length 7 = .ok (.aload_n 3, 1) := by decide +kernel
theorem dX10_length_8 : decode cX10_length 8 = .ok (.ifnonnull 7, 3) := by decide +kernel
theorem dX10_length_11 : decode cX10_length 11 = .ok (.iconst (-1), 1) := by decide +kernel
theorem dX10_length_12 : decode cX10_length 12 = .ok (.goto 7, 3) := by decide +kernel
theorem dX10_length_15 : decode cX10_length 15 = .ok (.aload_n 3, 1) := by decide +kernel
theorem dX10_length_16 : decode cX10_length 16 = .ok (.getfield 151, 3) := by decide +kernel
theorem dX10_length_19 : decode cX10_length 19 = .ok (.ireturn, 1) := by decide +kernel
theorem dX10_act_0 : decode cX10_act 0 = .ok (.aload_n 0, 1) := by decide +kernel
theorem dX10_act_1 : decode cX10_act 1 = .ok (.iload_n 1, 1) := by decide +kernel
theorem dX10_act_2 : decode cX10_act 2 = .ok (.iload_n 2, 1) := by decide +kernel
theorem dX10_act_3 : decode cX10_act 3 = .ok (.invokevirtual 140, 3) := by decide +kernel
theorem dX10_act_6 : decode cX10_act 6 = .ok (.astore 4, 2) := by decide +kernel
theorem dX10_act_8 : decode cX10_act 8 = .ok (.aload 4, 2) := by decide +kernel
theorem dX10_act_10 : decode cX10_act 10 = .ok (.ifnonnull 7, 3) := by decide +kernel
theorem dX10_act_13 : decode cX10_act 13 = .ok (.iconst (-1), 1) := by decide +kernel
theorem dX10_act_14 : decode cX10_act 14 = .ok (.goto 9, 3) := by decide +kernel
theorem dX10_act_17 : decode cX10_act 17 = .ok (.aload 4, 2) := by decide +kernel
theorem dX10_act_19 : decode cX10_act 19 = .ok (.iload_n 3, 1) := by decide +kernel
theorem dX10_act_20 : decode cX10_act 20 = .ok (.invokevirtual 154, 3) := by decide +kernel
theorem dX10_act_23 : decode cX10_act 23 = .ok (.ireturn, 1) := by decide +kernel
theorem dX10_bill_0 : decode cX10_bill 0 = .ok (.aload_n 0, 1) := by decide +kernel
theorem dX10_bill_1 : decode cX10_bill 1 = .ok (.getfield 26, 3) := by decide +kernel
theorem dX10_bill_4 : decode cX10_bill 4 = .ok (.iload_n 1, 1) := by decide +kernel
theorem dX10_bill_5 : decode cX10_bill 5 = .ok (.iload_n 2, 1) := by decide +kernel
theorem dX10_bill_6 : decode cX10_bill 6 = .ok (.iload_n 3, 1) := by decide +kernel
theorem dX10_bill_7 : decode cX10_bill 7 = .ok (.invokevirtual 157, 3) := by decide +kernel
theorem dX10_bill_10 : decode cX10_bill 10 = .ok (.ireturn, 1) := by decide +kernel
theorem dX10_pass_0 : decode cX10_pass 0 = .ok (.aload_n 0, 1) := by decide +kernel
theorem dX10_pass_1 : decode cX10_pass 1 = .ok (.getfield 26, 3) := by decide +kernel
theorem dX10_pass_4 : decode cX10_pass 4 = .ok (.iload_n 1, 1) := by decide +kernel
theorem dX10_pass_5 : decode cX10_pass 5 = .ok (.invokevirtual 161, 3) := by decide +kernel
theorem dX10_pass_8 : decode cX10_pass 8 = .ok (.ifCond .eq 16, 3) := by decide +kernel
theorem dX10_pass_11 : decode cX10_pass 11 = .ok (.iload 4, 2) := by decide +kernel
theorem dX10_pass_13 : decode cX10_pass 13 = .ok (.iconst 0, 1) := by decide +kernel
theorem dX10_pass_14 : decode cX10_pass 14 = .ok (.aload_n 0, 1) := by decide +kernel
theorem dX10_pass_15 : decode cX10_pass 15 = .ok (.getfield 67, 3) := by decide +kernel
theorem dX10_pass_18 : decode cX10_pass 18 = .ok (.invokestatic 86, 3) := by decide +kernel
theorem dX10_pass_21 : decode cX10_pass 21 = .ok (.ifCond .ne 5, 3) := by decide +kernel
theorem dX10_pass_24 : decode cX10_pass 24 = .ok (.iconst (-1), 1) := by decide +kernel
theorem dX10_pass_25 : decode cX10_pass 25 = .ok (.ireturn, 1) := by decide +kernel
theorem dX10_pass_26 : decode cX10_pass 26 = .ok (.aload_n 0, 1) := by decide +kernel
theorem dX10_pass_27 : decode cX10_pass 27 = .ok (.getfield 26, 3) := by decide +kernel
theorem dX10_pass_30 : decode cX10_pass 30 = .ok (.getfield 162, 3) := by decide +kernel
theorem dX10_pass_33 : decode cX10_pass 33 = .ok (.iload_n 1, 1) := by decide +kernel
theorem dX10_pass_34 : decode cX10_pass 34 = .ok (.iload_n 2, 1) := by decide +kernel
theorem dX10_pass_35 : decode cX10_pass 35 = .ok (.iload_n 3, 1) := by decide +kernel
theorem dX10_pass_36 : decode cX10_pass 36 = .ok (.iload 4, 2) := by decide +kernel
theorem dX10_pass_38 : decode cX10_pass 38 = .ok (.aload_n 0, 1) := by decide +kernel
theorem dX10_pass_39 : decode cX10_pass 39 = .ok (.getfield 67, 3) := by decide +kernel
theorem dX10_pass_42 : decode cX10_pass 42 = .ok (.invokevirtual 166, 3) := by decide +kernel
theorem dX10_pass_45 : decode cX10_pass 45 = .ok (.ireturn, 1) := by decide +kernel
theorem dX10_untell_0 : decode cX10_untell 0 = .ok (.aload_n 0, 1) := by decide +kernel
theorem dX10_untell_1 : decode cX10_untell 1 = .ok (.getfield 26, 3) := by decide +kernel
theorem dX10_untell_4 : decode cX10_untell 4 = .ok (.getfield 162, 3) := by decide +kernel
theorem dX10_untell_7 : decode cX10_untell 7 = .ok (.iload_n 1, 1) := by decide +kernel
theorem dX10_untell_8 : decode cX10_untell 8 = .ok (.aload_n 0, 1) := by decide +kernel
theorem dX10_untell_9 : decode cX10_untell 9 = .ok (.getfield 67, 3) := by decide +kernel
theorem dX10_untell_12 : decode cX10_untell 12 = .ok (.invokevirtual 172, 3) := by decide +kernel
theorem dX10_untell_15 : decode cX10_untell 15 = .ok (.ireturn, 1) := by decide +kernel
theorem dX10_holder_0 : decode cX10_holder 0 = .ok (.aload_n 0, 1) := by decide +kernel
theorem dX10_holder_1 : decode cX10_holder 1 = .ok (.getfield 26, 3) := by decide +kernel
theorem dX10_holder_4 : decode cX10_holder 4 = .ok (.iload_n 1, 1) := by decide +kernel
theorem dX10_holder_5 : decode cX10_holder 5 = .ok (.iload_n 2, 1) := by decide +kernel
theorem dX10_holder_6 : decode cX10_holder 6 = .ok (.iload_n 3, 1) := by decide +kernel
theorem dX10_holder_7 : decode cX10_holder 7 = .ok (.invokevirtual 176, 3) := by decide +kernel
theorem dX10_holder_10 : decode cX10_holder 10 = .ok (.ireturn, 1) := by decide +kernel
theorem dX10_pay_0 : decode cX10_pay 0 = .ok (.aload_n 0, 1) := by decide +kernel
theorem dX10_pay_1 : decode cX10_pay 1 = .ok (.getfield 26, 3) := by decide +kernel
theorem dX10_pay_4 : decode cX10_pay 4 = .ok (.iload_n 1, 1) := by decide +kernel
theorem dX10_pay_5 : decode cX10_pay 5 = .ok (.aload_n 0, 1) := by decide +kernel
theorem dX10_pay_6 : decode cX10_pay 6 = .ok (.getfield 67, 3) := by decide +kernel
theorem dX10_pay_9 : decode cX10_pay 9 = .ok (.invokevirtual 179, 3) := by decide +kernel
theorem dX10_pay_12 : decode cX10_pay 12 = .ok (.ireturn, 1) := by decide +kernel
theorem dX10_paid_0 : decode cX10_paid 0 = .ok (.aload_n 0, 1) := by decide +kernel
theorem dX10_paid_1 : decode cX10_paid 1 = .ok (.getfield 26, 3) := by decide +kernel
theorem dX10_paid_4 : decode cX10_paid 4 = .ok (.iload_n 1, 1) := by decide +kernel
theorem dX10_paid_5 : decode cX10_paid 5 = .ok (.iload_n 2, 1) := by decide +kernel
theorem dX10_paid_6 : decode cX10_paid 6 = .ok (.invokevirtual 182, 3) := by decide +kernel
theorem dX10_paid_9 : decode cX10_paid 9 = .ok (.ireturn, 1) := by decide +kernel
theorem dX10_about_0 : decode cX10_about 0 = .ok (.iload_n 1, 1) := by decide +kernel
theorem dX10_about_1 : decode cX10_about 1 = .ok (.tableswitch 93 0 6 #[43, 48, 56, 61, 69, 77, 88], 43) := by decide +kernel
theorem dX10_about_44 : decode cX10_about 44 = .ok (.aload_n 0, 1) := by decide +kernel
theorem dX10_about_45 : decode cX10_about 45 = .ok (.getfield 67, 3) := by decide +kernel
theorem dX10_about_48 : decode cX10_about 48 = .ok (.ireturn, 1) := by decide +kernel
theorem dX10_about_49 : decode cX10_about 49 = .ok (.aload_n 0, 1) := by decide +kernel
theorem dX10_about_50 : decode cX10_about 50 = .ok (.getfield 10, 3) := by decide +kernel
theorem dX10_about_53 : decode cX10_about 53 = .ok (.getfield 183, 3) := by decide +kernel
theorem dX10_about_56 : decode cX10_about 56 = .ok (.ireturn, 1) := by decide +kernel
theorem dX10_about_57 : decode cX10_about 57 = .ok (.aload_n 0, 1) := by decide +kernel
theorem dX10_about_58 : decode cX10_about 58 = .ok (.getfield 54, 3) := by decide +kernel
theorem dX10_about_61 : decode cX10_about 61 = .ok (.ireturn, 1) := by decide +kernel
theorem dX10_about_62 : decode cX10_about 62 = .ok (.aload_n 0, 1) := by decide +kernel
theorem dX10_about_63 : decode cX10_about 63 = .ok (.getfield 19, 3) := by decide +kernel
theorem dX10_about_66 : decode cX10_about 66 = .ok (.getfield 186, 3) := by decide +kernel
theorem dX10_about_69 : decode cX10_about 69 = .ok (.ireturn, 1) := by decide +kernel
theorem dX10_about_70 : decode cX10_about 70 = .ok (.aload_n 0, 1) := by decide +kernel
theorem dX10_about_71 : decode cX10_about 71 = .ok (.getfield 26, 3) := by decide +kernel
theorem dX10_about_74 : decode cX10_about 74 = .ok (.getfield 189, 3) := by decide +kernel
theorem dX10_about_77 : decode cX10_about 77 = .ok (.ireturn, 1) := by decide +kernel
theorem dX10_about_78 : decode cX10_about 78 = .ok (.aload_n 0, 1) := by decide +kernel
theorem dX10_about_79 : decode cX10_about 79 = .ok (.getfield 26, 3) := by decide +kernel
theorem dX10_about_82 : decode cX10_about 82 = .ok (.getfield 162, 3) := by decide +kernel
theorem dX10_about_85 : decode cX10_about 85 = .ok (.getfield 190, 3) := by decide +kernel
theorem dX10_about_88 : decode cX10_about 88 = .ok (.ireturn, 1) := by decide +kernel
theorem dX10_about_89 : decode cX10_about 89 = .ok (.aload_n 0, 1) := by decide +kernel
theorem dX10_about_90 : decode cX10_about 90 = .ok (.getfield 58, 3) := by decide +kernel
theorem dX10_about_93 : decode cX10_about 93 = .ok (.ireturn, 1) := by decide +kernel
theorem dX10_about_94 : decode cX10_about 94 = .ok (.iconst (-1), 1) := by decide +kernel
theorem dX10_about_95 : decode cX10_about 95 = .ok (.ireturn, 1) := by decide +kernel
theorem dX10_within_0 : decode cX10_within 0 = .ok (.iload_n 0, 1) := by decide +kernel
theorem dX10_within_1 : decode cX10_within 1 = .ok (.iload_n 1, 1) := by decide +kernel
theorem dX10_within_2 : decode cX10_within 2 = .ok (.if_icmp .lt 12, 3) := by decide +kernel
theorem dX10_within_5 : decode cX10_within 5 = .ok (.iload_n 0, 1) := by decide +kernel
theorem dX10_within_6 : decode cX10_within 6 = .ok (.iload_n 2, 1) := by decide +kernel
theorem dX10_within_7 : decode cX10_within 7 = .ok (.if_icmp .gt 7, 3) := by decide +kernel
theorem dX10_within_10 : decode cX10_within 10 = .ok (.iconst 1, 1) := by decide +kernel
theorem dX10_within_11 : decode cX10_within 11 = .ok (.goto 4, 3) := by decide +kernel
theorem dX10_within_14 : decode cX10_within 14 = .ok (.iconst 0, 1) := by decide +kernel
theorem dX10_within_15 : decode cX10_within 15 = .ok (.ireturn, 1) := by decide +kernel
theorem dX10_findHerd_0 : decode cX10_findHerd 0 = .ok (.iload_n 1, 1) := by decide +kernel
theorem dX10_findHerd_1 : decode cX10_findHerd 1 = .ok (.ifCond .lt 20, 3) := by decide +kernel
theorem dX10_findHerd_4 : decode cX10_findHerd 4 = .ok (.iload_n 1, 1) := by decide +kernel
theorem dX10_findHerd_5 : decode cX10_findHerd 5 = .ok (.aload_n 0, 1) := by decide +kernel
theorem dX10_findHerd_6 : decode cX10_findHerd 6 = .ok (.getfield 54, 3) := by decide +kernel
theorem dX10_findHerd_9 : decode cX10_findHerd 9 = .ok (.if_icmp .ge 12, 3) := by decide +kernel
theorem dX10_findHerd_12 : decode cX10_findHerd 12 = .ok (.aload_n 0, 1) := by decide +kernel
theorem dX10_findHerd_13 : decode cX10_findHerd 13 = .ok (.getfield 32, 3) := by decide +kernel
theorem dX10_findHerd_16 : decode cX10_findHerd 16 = .ok (.iload_n 1, 1) := by decide +kernel
theorem dX10_findHerd_17 : decode cX10_findHerd 17 = .ok (.aaload, 1) := by decide +kernel
theorem dX10_findHerd_18 : decode cX10_findHerd 18 = .ok (.goto 4, 3) := by decide +kernel
theorem dX10_findHerd_21 : decode cX10_findHerd 21 = .ok (.aconst_null, 1) := by decide +kernel
theorem dX10_findHerd_22 : decode cX10_findHerd 22 = .ok (.areturn, 1) := by decide +kernel
theorem dX10_priceKnownAt_0 : decode cX10_priceKnownAt 0 = .ok (.aload_n 0, 1) := by decide +kernel
theorem dX10_priceKnownAt_1 : decode cX10_priceKnownAt 1 = .ok (.getfield 19, 3) := by decide +kernel
theorem dX10_priceKnownAt_4 : decode cX10_priceKnownAt 4 = .ok (.aload_n 0, 1) := by decide +kernel
theorem dX10_priceKnownAt_5 : decode cX10_priceKnownAt 5 = .ok (.getfield 10, 3) := by decide +kernel
theorem dX10_priceKnownAt_8 : decode cX10_priceKnownAt 8 = .ok (.iload_n 1, 1) := by decide +kernel
theorem dX10_priceKnownAt_9 : decode cX10_priceKnownAt 9 = .ok (.invokevirtual 191, 3) := by decide +kernel
theorem dX10_priceKnownAt_12 : decode cX10_priceKnownAt 12 = .ok (.aload_n 0, 1) := by decide +kernel
theorem dX10_priceKnownAt_13 : decode cX10_priceKnownAt 13 = .ok (.getfield 67, 3) := by decide +kernel
theorem dX10_priceKnownAt_16 : decode cX10_priceKnownAt 16 = .ok (.invokevirtual 194, 3) := by decide +kernel
theorem dX10_priceKnownAt_19 : decode cX10_priceKnownAt 19 = .ok (.ireturn, 1) := by decide +kernel
theorem dX10_feedFour_0 : decode cX10_feedFour 0 = .ok (.bipush 24, 2) := by decide +kernel
theorem dX10_feedFour_2 : decode cX10_feedFour 2 = .ok (.istore_n 2, 1) := by decide +kernel
theorem dX10_feedFour_3 : decode cX10_feedFour 3 = .ok (.iload_n 2, 1) := by decide +kernel
theorem dX10_feedFour_4 : decode cX10_feedFour 4 = .ok (.ifCond .lt 42, 3) := by decide +kernel
theorem dX10_feedFour_7 : decode cX10_feedFour 7 = .ok (.aload_n 0, 1) := by decide +kernel
theorem dX10_feedFour_8 : decode cX10_feedFour 8 = .ok (.getfield 58, 3) := by decide +kernel
theorem dX10_feedFour_11 : decode cX10_feedFour 11 = .ok (.sipush 500, 3) := by decide +kernel
theorem dX10_feedFour_14 : decode cX10_feedFour 14 = .ok (.if_icmp .ge 32, 3) := by decide +kernel
theorem dX10_feedFour_17 : decode cX10_feedFour 17 = .ok (.aload_n 0, 1) := by decide +kernel
theorem dX10_feedFour_18 : decode cX10_feedFour 18 = .ok (.getfield 36, 3) := by decide +kernel
theorem dX10_feedFour_21 : decode cX10_feedFour 21 = .ok (.aload_n 0, 1) := by decide +kernel
theorem dX10_feedFour_22 : decode cX10_feedFour 22 = .ok (.getfield 58, 3) := by decide +kernel
theorem dX10_feedFour_25 : decode cX10_feedFour 25 = .ok (.iload_n 1, 1) := by decide +kernel
theorem dX10_feedFour_26 : decode cX10_feedFour 26 = .ok (.iload_n 2, 1) := by decide +kernel
theorem dX10_feedFour_27 : decode cX10_feedFour 27 = .ok (.iushr, 1) := by decide +kernel
theorem dX10_feedFour_28 : decode cX10_feedFour 28 = .ok (.i2b, 1) := by decide +kernel
theorem dX10_feedFour_29 : decode cX10_feedFour 29 = .ok (.bastore, 1) := by decide +kernel
theorem dX10_feedFour_30 : decode cX10_feedFour 30 = .ok (.aload_n 0, 1) := by decide +kernel
theorem dX10_feedFour_31 : decode cX10_feedFour 31 = .ok (.dup, 1) := by decide +kernel
theorem dX10_feedFour_32 : decode cX10_feedFour 32 = .ok (.getfield 58, 3) := by decide +kernel
theorem dX10_feedFour_35 : decode cX10_feedFour 35 = .ok (.iconst 1, 1) := by decide +kernel
theorem dX10_feedFour_36 : decode cX10_feedFour 36 = .ok (.iadd, 1) := by decide +kernel
theorem dX10_feedFour_37 : decode cX10_feedFour 37 = .ok (.putfield 58, 3) := by decide +kernel
theorem dX10_feedFour_40 : decode cX10_feedFour 40 = .ok (.iinc 2 (-8), 3) := by decide +kernel
theorem dX10_feedFour_43 : decode cX10_feedFour 43 = .ok (.goto (-40), 3) := by decide +kernel
theorem dX10_feedFour_46 : decode cX10_feedFour 46 = .ok (.return_, 1) := by decide +kernel
theorem dX10_findWay_0 : decode cX10_findWay 0 = .ok (.aload_n 0, 1) := by decide +kernel
theorem dX10_findWay_1 : decode cX10_findWay 1 = .ok (.iload_n 1, 1) := by decide +kernel
theorem dX10_findWay_2 : decode cX10_findWay 2 = .ok (.invokevirtual 106, 3) := by decide +kernel
theorem dX10_findWay_5 : decode cX10_findWay 5 = .ok (.astore_n 3, 1) := by decide +kernel
theorem dX10_findWay_6 : decode cX10_findWay 6 = .ok (.aload_n 3, 1) := by decide +kernel
theorem dX10_findWay_7 : decode cX10_findWay 7 = .ok (.ifnull 20, 3) := by decide +kernel
theorem dX10_findWay_10 : decode cX10_findWay 10 = .ok (.aload_n 3, 1) := by decide +kernel
theorem dX10_findWay_11 : decode cX10_findWay 11 = .ok (.getfield 197, 3) := by decide +kernel
theorem dX10_findWay_14 : decode cX10_findWay 14 = .ok (.ifCond .eq 13, 3) := by decide +kernel
theorem dX10_findWay_17 : decode cX10_findWay 17 = .ok (.iload_n 2, 1) := by decide +kernel
theorem dX10_findWay_18 : decode cX10_findWay 18 = .ok (.iconst 1, 1) := by decide +kernel
theorem dX10_findWay_19 : decode cX10_findWay 19 = .ok (.bipush 60, 2) := by decide +kernel
theorem dX10_findWay_21 : decode cX10_findWay 21 = .ok (.invokestatic 86, 3) := by decide +kernel
theorem dX10_findWay_24 : decode cX10_findWay 24 = .ok (.ifCond .ne 5, 3) := by decide +kernel
theorem dX10_findWay_27 : decode cX10_findWay 27 = .ok (.aconst_null, 1) := by decide +kernel
theorem dX10_findWay_28 : decode cX10_findWay 28 = .ok (.areturn, 1) := by decide +kernel
theorem dX10_findWay_29 : decode cX10_findWay 29 = .ok (.new 146, 3) := by decide +kernel
theorem dX10_findWay_32 : decode cX10_findWay 32 = .ok (.dup, 1) := by decide +kernel
theorem dX10_findWay_33 : decode cX10_findWay 33 = .ok (.aload_n 0, 1) := by decide +kernel
theorem dX10_findWay_34 : decode cX10_findWay 34 = .ok (.getfield 10, 3) := by decide +kernel
theorem dX10_findWay_37 : decode cX10_findWay 37 = .ok (.aload_n 3, 1) := by decide +kernel
theorem dX10_findWay_38 : decode cX10_findWay 38 = .ok (.getfield 200, 3) := by decide +kernel
theorem dX10_findWay_41 : decode cX10_findWay 41 = .ok (.aload_n 3, 1) := by decide +kernel
theorem dX10_findWay_42 : decode cX10_findWay 42 = .ok (.getfield 203, 3) := by decide +kernel
theorem dX10_findWay_45 : decode cX10_findWay 45 = .ok (.iload_n 2, 1) := by decide +kernel
theorem dX10_findWay_46 : decode cX10_findWay 46 = .ok (.invokespecial 206, 3) := by decide +kernel
theorem dX10_findWay_49 : decode cX10_findWay 49 = .ok (.astore 4, 2) := by decide +kernel
theorem dX10_findWay_51 : decode cX10_findWay 51 = .ok (.aload 4, 2) := by decide +kernel
theorem dX10_findWay_53 : decode cX10_findWay 53 = .ok (.invokevirtual 209, 3) := by decide +kernel
theorem dX10_findWay_56 : decode cX10_findWay 56 = .ok (.ifCond .eq 8, 3) := by decide +kernel
theorem dX10_findWay_59 : decode cX10_findWay 59 = .ok (.aload 4, 2) := by decide +kernel
theorem dX10_findWay_61 : decode cX10_findWay 61 = .ok (.goto 4, 3) := by decide +kernel
theorem dX10_findWay_64 : decode cX10_findWay 64 = .ok (.aconst_null, 1) := by decide +kernel
theorem dX10_findWay_65 : decode cX10_findWay 65 = .ok (.areturn, 1) := by decide +kernel
theorem dX10_passDay_0 : decode cX10_passDay 0 = .ok (.aload_n 0, 1) := by decide +kernel
theorem dX10_passDay_1 : decode cX10_passDay 1 = .ok (.getfield 10, 3) := by decide +kernel
theorem dX10_passDay_4 : decode cX10_passDay 4 = .ok (.invokevirtual 212, 3) := by decide +kernel
theorem dX10_passDay_7 : decode cX10_passDay 7 = .ok (.iconst 0, 1) := by decide +kernel
theorem dX10_passDay_8 : decode cX10_passDay 8 = .ok (.istore_n 1, 1) := by decide +kernel
theorem dX10_passDay_9 : decode cX10_passDay 9 = .ok (.iload_n 1, 1) := by decide +kernel
theorem dX10_passDay_10 : decode cX10_passDay 10 = .ok (.aload_n 0, 1) := by decide +kernel
theorem dX10_passDay_11 : decode cX10_passDay 11 = .ok (.getfield 54, 3) := by decide +kernel
theorem dX10_passDay_14 : decode cX10_passDay 14 = .ok (.if_icmp .ge 43, 3) := by decide +kernel
theorem dX10_passDay_17 : decode cX10_passDay 17 = .ok (.aload_n 0, 1) := by decide +kernel
theorem dX10_passDay_18 : decode cX10_passDay 18 = .ok (.getfield 32, 3) := by decide +kernel
theorem dX10_passDay_21 : decode cX10_passDay 21 = .ok (.iload_n 1, 1) := by decide +kernel
theorem dX10_passDay_22 : decode cX10_passDay 22 = .ok (.aaload, 1) := by decide +kernel
theorem dX10_passDay_23 : decode cX10_passDay 23 = .ok (.astore_n 2, 1) := by decide +kernel
theorem dX10_passDay_24 : decode cX10_passDay 24 = .ok (.aload_n 2, 1) := by decide +kernel
theorem dX10_passDay_25 : decode cX10_passDay 25 = .ok (.ifnull 26, 3) := by decide +kernel
theorem dX10_passDay_28 : decode cX10_passDay 28 = .ok (.aload_n 2, 1) := by decide +kernel
theorem dX10_passDay_29 : decode cX10_passDay 29 = .ok (.getfield 197, 3) := by decide +kernel
theorem dX10_passDay_32 : decode cX10_passDay 32 = .ok (.ifCond .le 19, 3) := by decide +kernel
theorem dX10_passDay_35 : decode cX10_passDay 35 = .ok (.aload_n 2, 1) := by decide +kernel
theorem dX10_passDay_36 : decode cX10_passDay 36 = .ok (.getfield 215, 3) := by decide +kernel
theorem dX10_passDay_39 : decode cX10_passDay 39 = .ok (.aload_n 0, 1) := by decide +kernel
theorem dX10_passDay_40 : decode cX10_passDay 40 = .ok (.getfield 67, 3) := by decide +kernel
theorem dX10_passDay_43 : decode cX10_passDay 43 = .ok (.if_icmp .gt 8, 3) := by decide +kernel
theorem dX10_passDay_46 : decode cX10_passDay 46 = .ok (.aload_n 0, 1) := by decide +kernel
theorem dX10_passDay_47 : decode cX10_passDay 47 = .ok (.aload_n 2, 1) := by decide +kernel
theorem dX10_passDay_48 : decode cX10_passDay 48 = .ok (.invokevirtual 218, 3) := by decide +kernel
theorem dX10_passDay_51 : decode cX10_passDay 51 = .ok (.iinc 1 1, 3) := by decide +kernel
theorem dX10_passDay_54 : decode cX10_passDay 54 = .ok (.goto (-45), 3) := by decide +kernel
theorem dX10_passDay_57 : decode cX10_passDay 57 = .ok (.aload_n 0, 1) := by decide +kernel
theorem dX10_passDay_58 : decode cX10_passDay 58 = .ok (.dup, 1) := by decide +kernel
theorem dX10_passDay_59 : decode cX10_passDay 59 = .ok (.getfield 67, 3) := by decide +kernel
theorem dX10_passDay_62 : decode cX10_passDay 62 = .ok (.iconst 1, 1) := by decide +kernel
theorem dX10_passDay_63 : decode cX10_passDay 63 = .ok (.iadd, 1) := by decide +kernel
theorem dX10_passDay_64 : decode cX10_passDay 64 = .ok (.putfield 67, 3) := by decide +kernel
theorem dX10_passDay_67 : decode cX10_passDay 67 = .ok (.return_, 1) := by decide +kernel
theorem dX10_drive_0 : decode cX10_drive 0 = .ok (.aload_n 0, 1) := by decide +kernel
theorem dX10_drive_1 : decode cX10_drive 1 = .ok (.aload_n 1, 1) := by decide +kernel
theorem dX10_drive_2 : decode cX10_drive 2 = .ok (.getfield 200, 3) := by decide +kernel
theorem dX10_drive_5 : decode cX10_drive 5 = .ok (.invokevirtual 100, 3) := by decide +kernel
theorem dX10_drive_8 : decode cX10_drive 8 = .ok (.istore_n 2, 1) := by decide +kernel
theorem dX10_drive_9 : decode cX10_drive 9 = .ok (.aload_n 0, 1) := by decide +kernel
theorem dX10_drive_10 : decode cX10_drive 10 = .ok (.getfield 43, 3) := by decide +kernel
theorem dX10_drive_13 : decode cX10_drive 13 = .ok (.aload_n 1, 1) := by decide +kernel
theorem dX10_drive_14 : decode cX10_drive 14 = .ok (.aload_n 0, 1) := by decide +kernel
theorem dX10_drive_15 : decode cX10_drive 15 = .ok (.getfield 10, 3) := by decide +kernel
theorem dX10_drive_18 : decode cX10_drive 18 = .ok (.aload_n 0, 1) := by decide +kernel
theorem dX10_drive_19 : decode cX10_drive 19 = .ok (.getfield 67, 3) := by decide +kernel
theorem dX10_drive_22 : decode cX10_drive 22 = .ok (.iload_n 2, 1) := by decide +kernel
theorem dX10_drive_23 : decode cX10_drive 23 = .ok (.invokevirtual 222, 3) := by decide +kernel
theorem dX10_drive_26 : decode cX10_drive 26 = .ok (.aload_n 0, 1) := by decide +kernel
theorem dX10_drive_27 : decode cX10_drive 27 = .ok (.getfield 43, 3) := by decide +kernel
theorem dX10_drive_30 : decode cX10_drive 30 = .ok (.aload_n 1, 1) := by decide +kernel
theorem dX10_drive_31 : decode cX10_drive 31 = .ok (.getfield 125, 3) := by decide +kernel
theorem dX10_drive_34 : decode cX10_drive 34 = .ok (.invokevirtual 226, 3) := by decide +kernel
theorem dX10_drive_37 : decode cX10_drive 37 = .ok (.istore_n 3, 1) := by decide +kernel
theorem dX10_drive_38 : decode cX10_drive 38 = .ok (.iload_n 3, 1) := by decide +kernel
theorem dX10_drive_39 : decode cX10_drive 39 = .ok (.iconst (-1), 1) := by decide +kernel
theorem dX10_drive_40 : decode cX10_drive 40 = .ok (.if_icmp .ne 11, 3) := by decide +kernel
theorem dX10_drive_43 : decode cX10_drive 43 = .ok (.aload_n 0, 1) := by decide +kernel
theorem dX10_drive_44 : decode cX10_drive 44 = .ok (.aload_n 1, 1) := by decide +kernel
theorem dX10_drive_45 : decode cX10_drive 45 = .ok (.invokevirtual 230, 3) := by decide +kernel
theorem dX10_drive_48 : decode cX10_drive 48 = .ok (.goto 9, 3) := by decide +kernel
theorem dX10_drive_51 : decode cX10_drive 51 = .ok (.aload_n 1, 1) := by decide +kernel
theorem dX10_drive_52 : decode cX10_drive 52 = .ok (.iload_n 3, 1) := by decide +kernel
theorem dX10_drive_53 : decode cX10_drive 53 = .ok (.iload_n 2, 1) := by decide +kernel
theorem dX10_drive_54 : decode cX10_drive 54 = .ok (.invokevirtual 233, 3) := by decide +kernel
theorem dX10_drive_57 : decode cX10_drive 57 = .ok (.aload_n 1, 1) := by decide +kernel
theorem dX10_drive_58 : decode cX10_drive 58 = .ok (.getfield 197, 3) := by decide +kernel
theorem dX10_drive_61 : decode cX10_drive 61 = .ok (.ifCond .le 36, 3) := by decide +kernel
theorem dX10_drive_64 : decode cX10_drive 64 = .ok (.aload_n 0, 1) := by decide +kernel
theorem dX10_drive_65 : decode cX10_drive 65 = .ok (.getfield 10, 3) := by decide +kernel
theorem dX10_drive_68 : decode cX10_drive 68 = .ok (.aload_n 1, 1) := by decide +kernel
theorem dX10_drive_69 : decode cX10_drive 69 = .ok (.getfield 200, 3) := by decide +kernel
theorem dX10_drive_72 : decode cX10_drive 72 = .ok (.aload_n 1, 1) := by decide +kernel
theorem dX10_drive_73 : decode cX10_drive 73 = .ok (.invokevirtual 237, 3) := by decide +kernel
theorem dX10_drive_76 : decode cX10_drive 76 = .ok (.invokevirtual 240, 3) := by decide +kernel
theorem dX10_drive_79 : decode cX10_drive 79 = .ok (.istore 4, 2) := by decide +kernel
theorem dX10_drive_81 : decode cX10_drive 81 = .ok (.aload_n 1, 1) := by decide +kernel
theorem dX10_drive_82 : decode cX10_drive 82 = .ok (.iload 4, 2) := by decide +kernel
theorem dX10_drive_84 : decode cX10_drive 84 = .ok (.iload_n 3, 1) := by decide +kernel
theorem dX10_drive_85 : decode cX10_drive 85 = .ok (.iconst (-1), 1) := by decide +kernel
theorem dX10_drive_86 : decode cX10_drive 86 = .ok (.if_icmp .ne 7, 3) := by decide +kernel
theorem dX10_drive_89 : decode cX10_drive 89 = .ok (.iconst 1, 1) := by decide +kernel
theorem dX10_drive_90 : decode cX10_drive 90 = .ok (.goto 4, 3) := by decide +kernel
theorem dX10_drive_93 : decode cX10_drive 93 = .ok (.iconst 0, 1) := by decide +kernel
theorem dX10_drive_94 : decode cX10_drive 94 = .ok (.invokevirtual 243, 3) := by decide +kernel
theorem dX10_drive_97 : decode cX10_drive 97 = .ok (.return_, 1) := by decide +kernel
theorem dX10_walkOn_0 : decode cX10_walkOn 0 = .ok (.aload_n 1, 1) := by decide +kernel
theorem dX10_walkOn_1 : decode cX10_walkOn 1 = .ok (.aload_n 0, 1) := by decide +kernel
theorem dX10_walkOn_2 : decode cX10_walkOn 2 = .ok (.getfield 10, 3) := by decide +kernel
theorem dX10_walkOn_5 : decode cX10_walkOn 5 = .ok (.aload_n 1, 1) := by decide +kernel
theorem dX10_walkOn_6 : decode cX10_walkOn 6 = .ok (.getfield 200, 3) := by decide +kernel
theorem dX10_walkOn_9 : decode cX10_walkOn 9 = .ok (.invokevirtual 247, 3) := by decide +kernel
theorem dX10_walkOn_12 : decode cX10_walkOn 12 = .ok (.invokevirtual 250, 3) := by decide +kernel
theorem dX10_walkOn_15 : decode cX10_walkOn 15 = .ok (.istore_n 2, 1) := by decide +kernel
theorem dX10_walkOn_16 : decode cX10_walkOn 16 = .ok (.aload_n 0, 1) := by decide +kernel
theorem dX10_walkOn_17 : decode cX10_walkOn 17 = .ok (.getfield 10, 3) := by decide +kernel
theorem dX10_walkOn_20 : decode cX10_walkOn 20 = .ok (.aload_n 1, 1) := by decide +kernel
theorem dX10_walkOn_21 : decode cX10_walkOn 21 = .ok (.getfield 200, 3) := by decide +kernel
theorem dX10_walkOn_24 : decode cX10_walkOn 24 = .ok (.iload_n 2, 1) := by decide +kernel
theorem dX10_walkOn_25 : decode cX10_walkOn 25 = .ok (.invokevirtual 253, 3) := by decide +kernel
theorem dX10_walkOn_28 : decode cX10_walkOn 28 = .ok (.aload_n 1, 1) := by decide +kernel
theorem dX10_walkOn_29 : decode cX10_walkOn 29 = .ok (.getfield 200, 3) := by decide +kernel
theorem dX10_walkOn_32 : decode cX10_walkOn 32 = .ok (.aload_n 0, 1) := by decide +kernel
theorem dX10_walkOn_33 : decode cX10_walkOn 33 = .ok (.getfield 10, 3) := by decide +kernel
theorem dX10_walkOn_36 : decode cX10_walkOn 36 = .ok (.invokevirtual 256, 3) := by decide +kernel
theorem dX10_walkOn_39 : decode cX10_walkOn 39 = .ok (.if_icmp .ne 15, 3) := by decide +kernel
theorem dX10_walkOn_42 : decode cX10_walkOn 42 = .ok (.aload_n 1, 1) := by decide +kernel
theorem dX10_walkOn_43 : decode cX10_walkOn 43 = .ok (.aload_n 0, 1) := by decide +kernel
theorem dX10_walkOn_44 : decode cX10_walkOn 44 = .ok (.aload_n 1, 1) := by decide +kernel
theorem dX10_walkOn_45 : decode cX10_walkOn 45 = .ok (.getfield 200, 3) := by decide +kernel
theorem dX10_walkOn_48 : decode cX10_walkOn 48 = .ok (.invokevirtual 100, 3) := by decide +kernel
theorem dX10_walkOn_51 : decode cX10_walkOn 51 = .ok (.invokevirtual 259, 3) := by decide +kernel
theorem dX10_walkOn_54 : decode cX10_walkOn 54 = .ok (.return_, 1) := by decide +kernel
theorem dX11_init_0 : decode cX11_init 0 = .ok (.aload_n 0, 1) := by decide +kernel
theorem dX11_init_1 : decode cX11_init 1 = .ok (.invokespecial 1, 3) := by decide +kernel
theorem dX11_init_4 : decode cX11_init 4 = .ok (.aload_n 0, 1) := by decide +kernel
theorem dX11_init_5 : decode cX11_init 5 = .ok (.iconst 2, 1) := by decide +kernel
theorem dX11_init_6 : decode cX11_init 6 = .ok (.putfield 7, 3) := by decide +kernel
theorem dX11_init_9 : decode cX11_init 9 = .ok (.aload_n 0, 1) := by decide +kernel
theorem dX11_init_10 : decode cX11_init 10 = .ok (.bipush 10, 2) := by decide +kernel
theorem dX11_init_12 : decode cX11_init 12 = .ok (.newarray .int, 2) := by decide +kernel
theorem dX11_init_14 : decode cX11_init 14 = .ok (.putfield 13, 3) := by decide +kernel
theorem dX11_init_17 : decode cX11_init 17 = .ok (.aload_n 0, 1) := by decide +kernel
theorem dX11_init_18 : decode cX11_init 18 = .ok (.bipush 10, 2) := by decide +kernel
theorem dX11_init_20 : decode cX11_init 20 = .ok (.newarray .int, 2) := by decide +kernel
theorem dX11_init_22 : decode cX11_init 22 = .ok (.putfield 17, 3) := by decide +kernel
theorem dX11_init_25 : decode cX11_init 25 = .ok (.aload_n 0, 1) := by decide +kernel
theorem dX11_init_26 : decode cX11_init 26 = .ok (.bipush 10, 2) := by decide +kernel
theorem dX11_init_28 : decode cX11_init 28 = .ok (.newarray .int, 2) := by decide +kernel
theorem dX11_init_30 : decode cX11_init 30 = .ok (.putfield 20, 3) := by decide +kernel
theorem dX11_init_33 : decode cX11_init 33 = .ok (.aload_n 0, 1) := by decide +kernel
theorem dX11_init_34 : decode cX11_init 34 = .ok (.bipush 10, 2) := by decide +kernel
theorem dX11_init_36 : decode cX11_init 36 = .ok (.newarray .int, 2) := by decide +kernel
theorem dX11_init_38 : decode cX11_init 38 = .ok (.putfield 23, 3) := by decide +kernel
theorem dX11_init_41 : decode cX11_init 41 = .ok (.aload_n 0, 1) := by decide +kernel
theorem dX11_init_42 : decode cX11_init 42 = .ok (.bipush 10, 2) := by decide +kernel
theorem dX11_init_44 : decode cX11_init 44 = .ok (.newarray .int, 2) := by decide +kernel
theorem dX11_init_46 : decode cX11_init 46 = .ok (.putfield 26, 3) := by decide +kernel
theorem dX11_init_49 : decode cX11_init 49 = .ok (.aload_n 0, 1) := by decide +kernel
theorem dX11_init_50 : decode cX11_init 50 = .ok (.bipush 30, 2) := by decide +kernel
theorem dX11_init_52 : decode cX11_init 52 = .ok (.newarray .int, 2) := by decide +kernel
theorem dX11_init_54 : decode cX11_init 54 = .ok (.putfield 29, 3) := by decide +kernel
theorem dX11_init_57 : decode cX11_init 57 = .ok (.aload_n 0, 1) := by decide +kernel
theorem dX11_init_58 : decode cX11_init 58 = .ok (.bipush 30, 2) := by decide +kernel
theorem dX11_init_60 : decode cX11_init 60 = .ok (.newarray .int, 2) := by decide +kernel
theorem dX11_init_62 : decode cX11_init 62 = .ok (.putfield 32, 3) := by decide +kernel
theorem dX11_init_65 : decode cX11_init 65 = .ok (.aload_n 0, 1) := by decide +kernel
theorem dX11_init_66 : decode cX11_init 66 = .ok (.bipush 6, 2) := by decide +kernel
theorem dX11_init_68 : decode cX11_init 68 = .ok (.newarray .int, 2) := by decide +kernel
theorem dX11_init_70 : decode cX11_init 70 = .ok (.putfield 35, 3) := by decide +kernel
theorem dX11_init_73 : decode cX11_init 73 = .ok (.aload_n 0, 1) := by decide +kernel
theorem dX11_init_74 : decode cX11_init 74 = .ok (.bipush 6, 2) := by decide +kernel
theorem dX11_init_76 : decode cX11_init 76 = .ok (.newarray .int, 2) := by decide +kernel
theorem dX11_init_78 : decode cX11_init 78 = .ok (.putfield 38, 3) := by decide +kernel
theorem dX11_init_81 : decode cX11_init 81 = .ok (.aload_n 0, 1) := by decide +kernel
theorem dX11_init_82 : decode cX11_init 82 = .ok (.bipush 6, 2) := by decide +kernel
theorem dX11_init_84 : decode cX11_init 84 = .ok (.newarray .int, 2) := by decide +kernel
theorem dX11_init_86 : decode cX11_init 86 = .ok (.putfield 41, 3) := by decide +kernel
theorem dX11_init_89 : decode cX11_init 89 = .ok (.aload_n 0, 1) := by decide +kernel
theorem dX11_init_90 : decode cX11_init 90 = .ok (.bipush 6, 2) := by decide +kernel
theorem dX11_init_92 : decode cX11_init 92 = .ok (.newarray .int, 2) := by decide +kernel
theorem dX11_init_94 : decode cX11_init 94 = .ok (.putfield 44, 3) := by decide +kernel
theorem dX11_init_97 : decode cX11_init 97 = .ok (.aload_n 0, 1) := by decide +kernel
theorem dX11_init_98 : decode cX11_init 98 = .ok (.bipush 6, 2) := by decide +kernel
theorem dX11_init_100 : decode cX11_init 100 = .ok (.newarray .int, 2) := by decide +kernel
theorem dX11_init_102 : decode cX11_init 102 = .ok (.putfield 47, 3) := by decide +kernel
theorem dX11_init_105 : decode cX11_init 105 = .ok (.aload_n 0, 1) := by decide +kernel
theorem dX11_init_106 : decode cX11_init 106 = .ok (.bipush 6, 2) := by decide +kernel
theorem dX11_init_108 : decode cX11_init 108 = .ok (.newarray .int, 2) := by decide +kernel
theorem dX11_init_110 : decode cX11_init 110 = .ok (.putfield 50, 3) := by decide +kernel
theorem dX11_init_113 : decode cX11_init 113 = .ok (.aload_n 0, 1) := by decide +kernel
theorem dX11_init_114 : decode cX11_init 114 = .ok (.bipush 6, 2) := by decide +kernel
theorem dX11_init_116 : decode cX11_init 116 = .ok (.newarray .int, 2) := by decide +kernel
theorem dX11_init_118 : decode cX11_init 118 = .ok (.putfield 53, 3) := by decide +kernel
theorem dX11_init_121 : decode cX11_init 121 = .ok (.aload_n 0, 1) := by decide +kernel
theorem dX11_init_122 : decode cX11_init 122 = .ok (.bipush 6, 2) := by decide +kernel
theorem dX11_init_124 : decode cX11_init 124 = .ok (.newarray .int, 2) := by decide +kernel
theorem dX11_init_126 : decode cX11_init 126 = .ok (.putfield 56, 3) := by decide +kernel
theorem dX11_init_129 : decode cX11_init 129 = .ok (.aload_n 0, 1) := by decide +kernel
theorem dX11_init_130 : decode cX11_init 130 = .ok (.bipush 6, 2) := by decide +kernel
theorem dX11_init_132 : decode cX11_init 132 = .ok (.newarray .int, 2) := by decide +kernel
theorem dX11_init_134 : decode cX11_init 134 = .ok (.putfield 59, 3) := by decide +kernel
theorem dX11_init_137 : decode cX11_init 137 = .ok (.aload_n 0, 1) := by decide +kernel
theorem dX11_init_138 : decode cX11_init 138 = .ok (.bipush 6, 2) := by decide +kernel
theorem dX11_init_140 : decode cX11_init 140 = .ok (.newarray .int, 2) := by decide +kernel
theorem dX11_init_142 : decode cX11_init 142 = .ok (.putfield 62, 3) := by decide +kernel
theorem dX11_init_145 : decode cX11_init 145 = .ok (.aload_n 0, 1) := by decide +kernel
theorem dX11_init_146 : decode cX11_init 146 = .ok (.bipush 6, 2) := by decide +kernel
theorem dX11_init_148 : decode cX11_init 148 = .ok (.newarray .int, 2) := by decide +kernel
theorem dX11_init_150 : decode cX11_init 150 = .ok (.putfield 65, 3) := by decide +kernel
theorem dX11_init_153 : decode cX11_init 153 = .ok (.aload_n 0, 1) := by decide +kernel
theorem dX11_init_154 : decode cX11_init 154 = .ok (.sipush 3000, 3) := by decide +kernel
theorem dX11_init_157 : decode cX11_init 157 = .ok (.newarray .int, 2) := by decide +kernel
theorem dX11_init_159 : decode cX11_init 159 = .ok (.putfield 68, 3) := by decide +kernel
theorem dX11_init_162 : decode cX11_init 162 = .ok (.aload_n 0, 1) := by decide +kernel
theorem dX11_init_163 : decode cX11_init 163 = .ok (.sipush 3000, 3) := by decide +kernel
theorem dX11_init_166 : decode cX11_init 166 = .ok (.newarray .int, 2) := by decide +kernel
theorem dX11_init_168 : decode cX11_init 168 = .ok (.putfield 71, 3) := by decide +kernel
theorem dX11_init_171 : decode cX11_init 171 = .ok (.aload_n 0, 1) := by decide +kernel
theorem dX11_init_172 : decode cX11_init 172 = .ok (.bipush 60, 2) := by decide +kernel
theorem dX11_init_174 : decode cX11_init 174 = .ok (.newarray .int, 2) := by decide +kernel
theorem dX11_init_176 : decode cX11_init 176 = .ok (.putfield 74, 3) := by decide +kernel
theorem dX11_init_179 : decode cX11_init 179 = .ok (.aload_n 0, 1) := by decide +kernel
theorem dX11_init_180 : decode cX11_init 180 = .ok (.bipush 48, 2) := by decide +kernel
theorem dX11_init_182 : decode cX11_init 182 = .ok (.newarray .int, 2) := by decide +kernel
theorem dX11_init_184 : decode cX11_init 184 = .ok (.putfield 77, 3) := by decide +kernel
theorem dX11_init_187 : decode cX11_init 187 = .ok (.aload_n 0, 1) := by decide +kernel
theorem dX11_init_188 : decode cX11_init 188 = .ok (.bipush 48, 2) := by decide +kernel
theorem dX11_init_190 : decode cX11_init 190 = .ok (.newarray .int, 2) := by decide +kernel
theorem dX11_init_192 : decode cX11_init 192 = .ok (.putfield 80, 3) := by decide +kernel
theorem dX11_init_195 : decode cX11_init 195 = .ok (.aload_n 0, 1) := by decide +kernel
theorem dX11_init_196 : decode cX11_init 196 = .ok (.bipush 6, 2) := by decide +kernel
theorem dX11_init_198 : decode cX11_init 198 = .ok (.newarray .int, 2) := by decide +kernel
theorem dX11_init_200 : decode cX11_init 200 = .ok (.putfield 83, 3) := by decide +kernel
theorem dX11_init_203 : decode cX11_init 203 = .ok (.aload_n 0, 1) := by decide +kernel
theorem dX11_init_204 : decode cX11_init 204 = .ok (.sipush 500, 3) := by decide +kernel
theorem dX11_init_207 : decode cX11_init 207 = .ok (.newarray .int, 2) := by decide +kernel
theorem dX11_init_209 : decode cX11_init 209 = .ok (.putfield 86, 3) := by decide +kernel
theorem dX11_init_212 : decode cX11_init 212 = .ok (.aload_n 0, 1) := by decide +kernel
theorem dX11_init_213 : decode cX11_init 213 = .ok (.sipush 500, 3) := by decide +kernel
theorem dX11_init_216 : decode cX11_init 216 = .ok (.newarray .int, 2) := by decide +kernel
theorem dX11_init_218 : decode cX11_init 218 = .ok (.putfield 89, 3) := by decide +kernel
theorem dX11_init_221 : decode cX11_init 221 = .ok (.aload_n 0, 1) := by decide +kernel
theorem dX11_init_222 : decode cX11_init 222 = .ok (.bipush 10, 2) := by decide +kernel
theorem dX11_init_224 : decode cX11_init 224 = .ok (.newarray .int, 2) := by decide +kernel
theorem dX11_init_226 : decode cX11_init 226 = .ok (.putfield 92, 3) := by decide +kernel
theorem dX11_init_229 : decode cX11_init 229 = .ok (.aload_n 0, 1) := by decide +kernel
theorem dX11_init_230 : decode cX11_init 230 = .ok (.bipush 8, 2) := by decide +kernel
theorem dX11_init_232 : decode cX11_init 232 = .ok (.newarray .int, 2) := by decide +kernel
theorem dX11_init_234 : decode cX11_init 234 = .ok (.putfield 95, 3) := by decide +kernel
theorem dX11_init_237 : decode cX11_init 237 = .ok (.aload_n 0, 1) := by decide +kernel
theorem dX11_init_238 : decode cX11_init 238 = .ok (.bipush 8, 2) := by decide +kernel
theorem dX11_init_240 : decode cX11_init 240 = .ok (.newarray .int, 2) := by decide +kernel
theorem dX11_init_242 : decode cX11_init 242 = .ok (.putfield 98, 3) := by decide +kernel
theorem dX11_init_245 : decode cX11_init 245 = .ok (.aload_n 0, 1) := by decide +kernel
theorem dX11_init_246 : decode cX11_init 246 = .ok (.sipush 500, 3) := by decide +kernel
theorem dX11_init_249 : decode cX11_init 249 = .ok (.newarray .int, 2) := by decide +kernel
theorem dX11_init_251 : decode cX11_init 251 = .ok (.putfield 101, 3) := by decide +kernel
theorem dX11_init_254 : decode cX11_init 254 = .ok (.aload_n 0, 1) := by decide +kernel
theorem dX11_init_255 : decode cX11_init 255 = .ok (.iconst (-1), 1) := by decide +kernel
theorem dX11_init_256 : decode cX11_init 256 = .ok (.putfield 104, 3) := by decide +kernel
theorem dX11_init_259 : decode cX11_init 259 = .ok (.aload_n 0, 1) := by decide +kernel
theorem dX11_init_260 : decode cX11_init 260 = .ok (.sipush 400, 3) := by decide +kernel
theorem dX11_init_263 : decode cX11_init 263 = .ok (.newarray .int, 2) := by decide +kernel
theorem dX11_init_265 : decode cX11_init 265 = .ok (.putfield 107, 3) := by decide +kernel
theorem dX11_init_268 : decode cX11_init 268 = .ok (.aload_n 0, 1) := by decide +kernel
theorem dX11_init_269 : decode cX11_init 269 = .ok (.sipush 300, 3) := by decide +kernel
theorem dX11_init_272 : decode cX11_init 272 = .ok (.newarray .int, 2) := by decide +kernel
theorem dX11_init_274 : decode cX11_init 274 = .ok (.putfield 110, 3) := by decide +kernel
theorem dX11_init_277 : decode cX11_init 277 = .ok (.aload_n 0, 1) := by decide +kernel
theorem dX11_init_278 : decode cX11_init 278 = .ok (.bipush 9, 2) := by decide +kernel
theorem dX11_init_280 : decode cX11_init 280 = .ok (.newarray .int, 2) := by decide +kernel
theorem dX11_init_282 : decode cX11_init 282 = .ok (.putfield 113, 3) := by decide +kernel
theorem dX11_init_285 : decode cX11_init 285 = .ok (.aload_n 0, 1) := by decide +kernel
theorem dX11_init_286 : decode cX11_init 286 = .ok (.ldc 116, 2) := by decide +kernel
theorem dX11_init_288 : decode cX11_init 288 = .ok (.newarray .int, 2) := by decide +kernel
theorem dX11_init_290 : decode cX11_init 290 = .ok (.putfield 117, 3) := by decide +kernel
theorem dX11_init_293 : decode cX11_init 293 = .ok (.aload_n 0, 1) := by decide +kernel
theorem dX11_init_294 : decode cX11_init 294 = .ok (.ldc 116, 2) := by decide +kernel
theorem dX11_init_296 : decode cX11_init 296 = .ok (.newarray .int, 2) := by decide +kernel
theorem dX11_init_298 : decode cX11_init 298 = .ok (.putfield 120, 3) := by decide +kernel
theorem dX11_init_301 : decode cX11_init 301 = .ok (.aload_n 0, 1) := by decide +kernel
theorem dX11_init_302 : decode cX11_init 302 = .ok (.ldc 116, 2) := by decide +kernel
theorem dX11_init_304 : decode cX11_init 304 = .ok (.newarray .boolean, 2) := by decide +kernel
theorem dX11_init_306 : decode cX11_init 306 = .ok (.putfield 123, 3) := by decide +kernel
theorem dX11_init_309 : decode cX11_init 309 = .ok (.aload_n 0, 1) := by decide +kernel
theorem dX11_init_310 : decode cX11_init 310 = .ok (.bipush 20, 2) := by decide +kernel
theorem dX11_init_312 : decode cX11_init 312 = .ok (.newarray .int, 2) := by decide +kernel
theorem dX11_init_314 : decode cX11_init 314 = .ok (.putfield 127, 3) := by decide +kernel
theorem dX11_init_317 : decode cX11_init 317 = .ok (.aload_n 0, 1) := by decide +kernel
theorem dX11_init_318 : decode cX11_init 318 = .ok (.bipush 20, 2) := by decide +kernel
theorem dX11_init_320 : decode cX11_init 320 = .ok (.newarray .int, 2) := by decide +kernel
theorem dX11_init_322 : decode cX11_init 322 = .ok (.putfield 130, 3) := by decide +kernel
theorem dX11_init_325 : decode cX11_init 325 = .ok (.aload_n 0, 1) := by decide +kernel
theorem dX11_init_326 : decode cX11_init 326 = .ok (.bipush 20, 2) := by decide +kernel
theorem dX11_init_328 : decode cX11_init 328 = .ok (.newarray .int, 2) := by decide +kernel
theorem dX11_init_330 : decode cX11_init 330 = .ok (.putfield 133, 3) := by decide +kernel
theorem dX11_init_333 : decode cX11_init 333 = .ok (.aload_n 0, 1) := by decide +kernel
theorem dX11_init_334 : decode cX11_init 334 = .ok (.bipush 20, 2) := by decide +kernel
theorem dX11_init_336 : decode cX11_init 336 = .ok (.newarray .int, 2) := by decide +kernel
theorem dX11_init_338 : decode cX11_init 338 = .ok (.putfield 136, 3) := by decide +kernel
theorem dX11_init_341 : decode cX11_init 341 = .ok (.aload_n 0, 1) := by decide +kernel
theorem dX11_init_342 : decode cX11_init 342 = .ok (.bipush 20, 2) := by decide +kernel
theorem dX11_init_344 : decode cX11_init 344 = .ok (.newarray .int, 2) := by decide +kernel
theorem dX11_init_346 : decode cX11_init 346 = .ok (.putfield 139, 3) := by decide +kernel
theorem dX11_init_349 : decode cX11_init 349 = .ok (.aload_n 0, 1) := by decide +kernel
theorem dX11_init_350 : decode cX11_init 350 = .ok (.bipush 60, 2) := by decide +kernel
theorem dX11_init_352 : decode cX11_init 352 = .ok (.newarray .int, 2) := by decide +kernel
theorem dX11_init_354 : decode cX11_init 354 = .ok (.putfield 142, 3) := by decide +kernel
theorem dX11_init_357 : decode cX11_init 357 = .ok (.aload_n 0, 1) := by decide +kernel
theorem dX11_init_358 : decode cX11_init 358 = .ok (.bipush 60, 2) := by decide +kernel
theorem dX11_init_360 : decode cX11_init 360 = .ok (.newarray .int, 2) := by decide +kernel
theorem dX11_init_362 : decode cX11_init 362 = .ok (.putfield 145, 3) := by decide +kernel
theorem dX11_init_365 : decode cX11_init 365 = .ok (.aload_n 0, 1) := by decide +kernel
theorem dX11_init_366 : decode cX11_init 366 = .ok (.bipush 60, 2) := by decide +kernel
theorem dX11_init_368 : decode cX11_init 368 = .ok (.newarray .int, 2) := by decide +kernel
theorem dX11_init_370 : decode cX11_init 370 = .ok (.putfield 148, 3) := by decide +kernel
theorem dX11_init_373 : decode cX11_init 373 = .ok (.aload_n 0, 1) := by decide +kernel
theorem dX11_init_374 : decode cX11_init 374 = .ok (.bipush 60, 2) := by decide +kernel
theorem dX11_init_376 : decode cX11_init 376 = .ok (.newarray .int, 2) := by decide +kernel
theorem dX11_init_378 : decode cX11_init 378 = .ok (.putfield 151, 3) := by decide +kernel
theorem dX11_init_381 : decode cX11_init 381 = .ok (.aload_n 0, 1) := by decide +kernel
theorem dX11_init_382 : decode cX11_init 382 = .ok (.bipush 60, 2) := by decide +kernel
theorem dX11_init_384 : decode cX11_init 384 = .ok (.newarray .int, 2) := by decide +kernel
theorem dX11_init_386 : decode cX11_init 386 = .ok (.putfield 154, 3) := by decide +kernel
theorem dX11_init_389 : decode cX11_init 389 = .ok (.aload_n 0, 1) := by decide +kernel
theorem dX11_init_390 : decode cX11_init 390 = .ok (.bipush 60, 2) := by decide +kernel
theorem dX11_init_392 : decode cX11_init 392 = .ok (.newarray .int, 2) := by decide +kernel
theorem dX11_init_394 : decode cX11_init 394 = .ok (.putfield 157, 3) := by decide +kernel
theorem dX11_init_397 : decode cX11_init 397 = .ok (.aload_n 0, 1) := by decide +kernel
theorem dX11_init_398 : decode cX11_init 398 = .ok (.getfield 13, 3) := by decide +kernel
theorem dX11_init_401 : decode cX11_init 401 = .ok (.iconst 0, 1) := by decide +kernel
theorem dX11_init_402 : decode cX11_init 402 = .ok (.iconst 1, 1) := by decide +kernel
theorem dX11_init_403 : decode cX11_init 403 = .ok (.iastore, 1) := by decide +kernel
theorem dX11_init_404 : decode cX11_init 404 = .ok (.return_, 1) := by decide +kernel
theorem dX11_isStance_0 : decode cX11_isStance 0 = .ok (.iload_n 1, 1) := by decide +kernel
theorem dX11_isStance_1 : decode cX11_isStance 1 = .ok (.ifCond .lt 15, 3) := by decide +kernel
theorem dX11_isStance_4 : decode cX11_isStance 4 = .ok (.iload_n 1, 1) := by decide +kernel
theorem dX11_isStance_5 : decode cX11_isStance 5 = .ok (.aload_n 0, 1) := by decide +kernel
theorem dX11_isStance_6 : decode cX11_isStance 6 = .ok (.getfield 7, 3) := by decide +kernel
theorem dX11_isStance_9 : decode cX11_isStance 9 = .ok (.if_icmp .ge 7, 3) := by decide +kernel
theorem dX11_isStance_12 : decode cX11_isStance 12 = .ok (.iconst 1, 1) := by decide +kernel
theorem dX11_isStance_13 : decode cX11_isStance 13 = .ok (.goto 4, 3) := by decide +kernel
theorem dX11_isStance_16 : decode cX11_isStance 16 = .ok (.iconst 0, 1) := by decide +kernel
theorem dX11_isStance_17 : decode cX11_isStance 17 = .ok (.ireturn, 1) := by decide +kernel
theorem dX11_fair_0 : decode cX11_fair 0 = .ok (.aload_n 0, 1) := by decide +kernel
theorem dX11_fair_1 : decode cX11_fair 1 = .ok (.getfield 7, 3) := by decide +kernel
theorem dX11_fair_4 : decode cX11_fair 4 = .ok (.iconst 1, 1) := by decide +kernel
theorem dX11_fair_5 : decode cX11_fair 5 = .ok (.isub, 1) := by decide +kernel
theorem dX11_fair_6 : decode cX11_fair 6 = .ok (.ireturn, 1) := by decide +kernel
theorem dX11_areMiles_0 : decode cX11_areMiles 0 = .ok (.iload_n 0, 1) := by decide +kernel
theorem dX11_areMiles_1 : decode cX11_areMiles 1 = .ok (.iconst 1, 1) := by decide +kernel
theorem dX11_areMiles_2 : decode cX11_areMiles 2 = .ok (.if_icmp .lt 13, 3) := by decide +kernel
theorem dX11_areMiles_5 : decode cX11_areMiles 5 = .ok (.iload_n 0, 1) := by decide +kernel
theorem dX11_areMiles_6 : decode cX11_areMiles 6 = .ok (.bipush 30, 2) := by decide +kernel
theorem dX11_areMiles_8 : decode cX11_areMiles 8 = .ok (.if_icmp .gt 7, 3) := by decide +kernel
theorem dX11_areMiles_11 : decode cX11_areMiles 11 = .ok (.iconst 1, 1) := by decide +kernel
theorem dX11_areMiles_12 : decode cX11_areMiles 12 = .ok (.goto 4, 3) := by decide +kernel
theorem dX11_areMiles_15 : decode cX11_areMiles 15 = .ok (.iconst 0, 1) := by decide +kernel
theorem dX11_areMiles_16 : decode cX11_areMiles 16 = .ok (.ireturn, 1) := by decide +kernel
theorem dX11_stance_0 : decode cX11_stance 0 = .ok (.aload_n 0, 1) := by decide +kernel
theorem dX11_stance_1 : decode cX11_stance 1 = .ok (.getfield 7, 3) := by decide +kernel
theorem dX11_stance_4 : decode cX11_stance 4 = .ok (.bipush 10, 2) := by decide +kernel
theorem dX11_stance_6 : decode cX11_stance 6 = .ok (.if_icmp .eq 17, 3) := by decide +kernel
theorem dX11_stance_9 : decode cX11_stance 9 = .ok (.aload_n 0, 1) := by decide +kernel
theorem dX11_stance_10 : decode cX11_stance 10 = .ok (.getfield 160, 3) := by decide +kernel
theorem dX11_stance_13 : decode cX11_stance 13 = .ok (.ifCond .gt 10, 3) := by decide +kernel
theorem dX11_stance_16 : decode cX11_stance 16 = .ok (.iload_n 1, 1) := by decide +kernel
theorem dX11_stance_17 : decode cX11_stance 17 = .ok (.invokestatic 163, 3) := by decide +kernel
theorem dX11_stance_20 : decode cX11_stance 20 = .ok (.ifCond .ne 5, 3) := by decide +kernel
theorem dX11_stance_23 : decode cX11_stance 23 = .ok (.iconst (-1), 1) := by decide +kernel
theorem dX11_stance_24 : decode cX11_stance 24 = .ok (.ireturn, 1) := by decide +kernel
theorem dX11_stance_25 : decode cX11_stance 25 = .ok (.aload_n 0, 1) := by decide +kernel
theorem dX11_stance_26 : decode cX11_stance 26 = .ok (.getfield 13, 3) := by decide +kernel
theorem dX11_stance_29 : decode cX11_stance 29 = .ok (.aload_n 0, 1) := by decide +kernel
theorem dX11_stance_30 : decode cX11_stance 30 = .ok (.getfield 7, 3) := by decide +kernel
theorem dX11_stance_33 : decode cX11_stance 33 = .ok (.iconst 1, 1) := by decide +kernel
theorem dX11_stance_34 : decode cX11_stance 34 = .ok (.isub, 1) := by decide +kernel
theorem dX11_stance_35 : decode cX11_stance 35 = .ok (.iload_n 1, 1) := by decide +kernel
theorem dX11_stance_36 : decode cX11_stance 36 = .ok (.iastore, 1) := by decide +kernel
theorem dX11_stance_37 : decode cX11_stance 37 = .ok (.aload_n 0, 1) := by decide +kernel
theorem dX11_stance_38 : decode cX11_stance 38 = .ok (.dup, 1) := by decide +kernel
theorem dX11_stance_39 : decode cX11_stance 39 = .ok (.getfield 7, 3) := by decide +kernel
theorem dX11_stance_42 : decode cX11_stance 42 = .ok (.iconst 1, 1) := by decide +kernel
theorem dX11_stance_43 : decode cX11_stance 43 = .ok (.iadd, 1) := by decide +kernel
theorem dX11_stance_44 : decode cX11_stance 44 = .ok (.putfield 7, 3) := by decide +kernel
theorem dX11_stance_47 : decode cX11_stance 47 = .ok (.aload_n 0, 1) := by decide +kernel
theorem dX11_stance_48 : decode cX11_stance 48 = .ok (.getfield 7, 3) := by decide +kernel
theorem dX11_stance_51 : decode cX11_stance 51 = .ok (.iconst 1, 1) := by decide +kernel
theorem dX11_stance_52 : decode cX11_stance 52 = .ok (.isub, 1) := by decide +kernel
theorem dX11_stance_53 : decode cX11_stance 53 = .ok (.ireturn, 1) := by decide +kernel
theorem dX11_first_0 : decode cX11_first 0 = .ok (.aload_n 0, 1) := by decide +kernel
theorem dX11_first_1 : decode cX11_first 1 = .ok (.getfield 160, 3) := by decide +kernel
theorem dX11_first_4 : decode cX11_first 4 = .ok (.ifCond .gt 10, 3) := by decide +kernel
theorem dX11_first_7 : decode cX11_first 7 = .ok (.iload_n 1, 1) := by decide +kernel
theorem dX11_first_8 : decode cX11_first 8 = .ok (.invokestatic 163, 3) := by decide +kernel
theorem dX11_first_11 : decode cX11_first 11 = .ok (.ifCond .ne 5, 3) := by decide +kernel
theorem dX11_first_14 : decode cX11_first 14 = .ok (.iconst 0, 1) := by decide +kernel
theorem dX11_first_15 : decode cX11_first 15 = .ok (.ireturn, 1) := by decide +kernel
theorem dX11_first_16 : decode cX11_first 16 = .ok (.aload_n 0, 1) := by decide +kernel
theorem dX11_first_17 : decode cX11_first 17 = .ok (.getfield 13, 3) := by decide +kernel
theorem dX11_first_20 : decode cX11_first 20 = .ok (.iconst 0, 1) := by decide +kernel
theorem dX11_first_21 : decode cX11_first 21 = .ok (.iload_n 1, 1) := by decide +kernel
theorem dX11_first_22 : decode cX11_first 22 = .ok (.iastore, 1) := by decide +kernel
theorem dX11_first_23 : decode cX11_first 23 = .ok (.iconst 1, 1) := by decide +kernel
theorem dX11_first_24 : decode cX11_first 24 = .ok (.ireturn, 1) := by decide +kernel
theorem dX11_grass_0 : decode cX11_grass 0 = .ok (.aload_n 0, 1) := by decide +kernel
theorem dX11_grass_1 : decode cX11_grass 1 = .ok (.iload_n 1, 1) := by decide +kernel
theorem dX11_grass_2 : decode cX11_grass 2 = .ok (.invokevirtual 167, 3) := by decide +kernel
theorem dX11_grass_5 : decode cX11_grass 5 = .ok (.ifCond .eq 44, 3) := by decide +kernel
theorem dX11_grass_8 : decode cX11_grass 8 = .ok (.iload_n 1, 1) := by decide +kernel
theorem dX11_grass_9 : decode cX11_grass 9 = .ok (.aload_n 0, 1) := by decide +kernel
theorem dX11_grass_10 : decode cX11_grass 10 = .ok (.invokevirtual 170, 3) := by decide +kernel
theorem dX11_grass_13 : decode cX11_grass 13 = .ok (.if_icmp .eq 36, 3) := by decide +kernel
theorem dX11_grass_16 : decode cX11_grass 16 = .ok (.iload_n 3, 1) := by decide +kernel
theorem dX11_grass_17 : decode cX11_grass 17 = .ok (.ifCond .lt 32, 3) := by decide +kernel
theorem dX11_grass_20 : decode cX11_grass 20 = .ok (.iload_n 3, 1) := by decide +kernel
theorem dX11_grass_21 : decode cX11_grass 21 = .ok (.sipush 1000, 3) := by decide +kernel
theorem dX11_grass_24 : decode cX11_grass 24 = .ok (.if_icmp .gt 25, 3) := by decide +kernel
theorem dX11_grass_27 : decode cX11_grass 27 = .ok (.iload 4, 2) := by decide +kernel
theorem dX11_grass_29 : decode cX11_grass 29 = .ok (.ifCond .lt 20, 3) := by decide +kernel
theorem dX11_grass_32 : decode cX11_grass 32 = .ok (.iload 4, 2) := by decide +kernel
theorem dX11_grass_34 : decode cX11_grass 34 = .ok (.ldc 174, 2) := by decide +kernel
theorem dX11_grass_36 : decode cX11_grass 36 = .ok (.if_icmp .gt 13, 3) := by decide +kernel
theorem dX11_grass_39 : decode cX11_grass 39 = .ok (.iload_n 2, 1) := by decide +kernel
theorem dX11_grass_40 : decode cX11_grass 40 = .ok (.ifCond .lt 9, 3) := by decide +kernel
theorem dX11_grass_43 : decode cX11_grass 43 = .ok (.iload_n 2, 1) := by decide +kernel
theorem dX11_grass_44 : decode cX11_grass 44 = .ok (.iload 4, 2) := by decide +kernel
theorem dX11_grass_46 : decode cX11_grass 46 = .ok (.if_icmp .le 5, 3) := by decide +kernel
theorem dX11_grass_49 : decode cX11_grass 49 = .ok (.iconst 0, 1) := by decide +kernel
theorem dX11_grass_50 : decode cX11_grass 50 = .ok (.ireturn, 1) := by decide +kernel
theorem dX11_grass_51 : decode cX11_grass 51 = .ok (.aload_n 0, 1) := by decide +kernel
theorem dX11_grass_52 : decode cX11_grass 52 = .ok (.getfield 17, 3) := by decide +kernel
theorem dX11_grass_55 : decode cX11_grass 55 = .ok (.iload_n 1, 1) := by decide +kernel
theorem dX11_grass_56 : decode cX11_grass 56 = .ok (.iload_n 2, 1) := by decide +kernel
theorem dX11_grass_57 : decode cX11_grass 57 = .ok (.iastore, 1) := by decide +kernel
theorem dX11_grass_58 : decode cX11_grass 58 = .ok (.aload_n 0, 1) := by decide +kernel
theorem dX11_grass_59 : decode cX11_grass 59 = .ok (.getfield 20, 3) := by decide +kernel
theorem dX11_grass_62 : decode cX11_grass 62 = .ok (.iload_n 1, 1) := by decide +kernel
theorem dX11_grass_63 : decode cX11_grass 63 = .ok (.iload_n 3, 1) := by decide +kernel
theorem dX11_grass_64 : decode cX11_grass 64 = .ok (.iastore, 1) := by decide +kernel
theorem dX11_grass_65 : decode cX11_grass 65 = .ok (.aload_n 0, 1) := by decide +kernel
theorem dX11_grass_66 : decode cX11_grass 66 = .ok (.getfield 23, 3) := by decide +kernel
theorem dX11_grass_69 : decode cX11_grass 69 = .ok (.iload_n 1, 1) := by decide +kernel
theorem dX11_grass_70 : decode cX11_grass 70 = .ok (.iload 4, 2) := by decide +kernel
theorem dX11_grass_72 : decode cX11_grass 72 = .ok (.iastore, 1) := by decide +kernel
theorem dX11_grass_73 : decode cX11_grass 73 = .ok (.iconst 1, 1) := by decide +kernel
theorem dX11_grass_74 : decode cX11_grass 74 = .ok (.ireturn, 1) := by decide +kernel
theorem dX11_toFair_0 : decode cX11_toFair 0 = .ok (.iconst 0, 1) := by decide +kernel
theorem dX11_toFair_1 : decode cX11_toFair 1 = .ok (.istore_n 2, 1) := by decide +kernel
theorem dX11_toFair_2 : decode cX11_toFair 2 = .ok (.iload_n 1, 1) := by decide +kernel
theorem dX11_toFair_3 : decode cX11_toFair 3 = .ok (.istore_n 3, 1) := by decide +kernel
theorem dX11_toFair_4 : decode cX11_toFair 4 = .ok (.iload_n 3, 1) := by decide +kernel
theorem dX11_toFair_5 : decode cX11_toFair 5 = .ok (.aload_n 0, 1) := by decide +kernel
theorem dX11_toFair_6 : decode cX11_toFair 6 = .ok (.invokevirtual 170, 3) := by decide +kernel
theorem dX11_toFair_9 : decode cX11_toFair 9 = .ok (.if_icmp .ge 18, 3) := by decide +kernel
theorem dX11_toFair_12 : decode cX11_toFair 12 = .ok (.iload_n 2, 1) := by decide +kernel
theorem dX11_toFair_13 : decode cX11_toFair 13 = .ok (.aload_n 0, 1) := by decide +kernel
theorem dX11_toFair_14 : decode cX11_toFair 14 = .ok (.getfield 13, 3) := by decide +kernel
theorem dX11_toFair_17 : decode cX11_toFair 17 = .ok (.iload_n 3, 1) := by decide +kernel
theorem dX11_toFair_18 : decode cX11_toFair 18 = .ok (.iaload, 1) := by decide +kernel
theorem dX11_toFair_19 : decode cX11_toFair 19 = .ok (.iadd, 1) := by decide +kernel
theorem dX11_toFair_20 : decode cX11_toFair 20 = .ok (.istore_n 2, 1) := by decide +kernel
theorem dX11_toFair_21 : decode cX11_toFair 21 = .ok (.iinc 3 1, 3) := by decide +kernel
theorem dX11_toFair_24 : decode cX11_toFair 24 = .ok (.goto (-20), 3) := by decide +kernel
theorem dX11_toFair_27 : decode cX11_toFair 27 = .ok (.iload_n 2, 1) := by decide +kernel
theorem dX11_toFair_28 : decode cX11_toFair 28 = .ok (.ireturn, 1) := by decide +kernel
theorem dX11_letter_0 : decode cX11_letter 0 = .ok (.aload_n 0, 1) := by decide +kernel
theorem dX11_letter_1 : decode cX11_letter 1 = .ok (.getfield 175, 3) := by decide +kernel
theorem dX11_letter_4 : decode cX11_letter 4 = .ok (.bipush 30, 2) := by decide +kernel
theorem dX11_letter_6 : decode cX11_letter 6 = .ok (.if_icmp .eq 14, 3) := by decide +kernel
theorem dX11_letter_9 : decode cX11_letter 9 = .ok (.iload_n 1, 1) := by decide +kernel
theorem dX11_letter_10 : decode cX11_letter 10 = .ok (.ifCond .lt 10, 3) := by decide +kernel
theorem dX11_letter_13 : decode cX11_letter 13 = .ok (.iload_n 1, 1) := by decide +kernel
theorem dX11_letter_14 : decode cX11_letter 14 = .ok (.sipush 1000, 3) := by decide +kernel
theorem dX11_letter_17 : decode cX11_letter 17 = .ok (.if_icmp .le 5, 3) := by decide +kernel
theorem dX11_letter_20 : decode cX11_letter 20 = .ok (.iconst (-1), 1) := by decide +kernel
theorem dX11_letter_21 : decode cX11_letter 21 = .ok (.ireturn, 1) := by decide +kernel
theorem dX11_letter_22 : decode cX11_letter 22 = .ok (.aload_n 0, 1) := by decide +kernel
theorem dX11_letter_23 : decode cX11_letter 23 = .ok (.getfield 29, 3) := by decide +kernel
theorem dX11_letter_26 : decode cX11_letter 26 = .ok (.aload_n 0, 1) := by decide +kernel
theorem dX11_letter_27 : decode cX11_letter 27 = .ok (.getfield 175, 3) := by decide +kernel
theorem dX11_letter_30 : decode cX11_letter 30 = .ok (.iload_n 1, 1) := by decide +kernel
theorem dX11_letter_31 : decode cX11_letter 31 = .ok (.iastore, 1) := by decide +kernel
theorem dX11_letter_32 : decode cX11_letter 32 = .ok (.aload_n 0, 1) := by decide +kernel
theorem dX11_letter_33 : decode cX11_letter 33 = .ok (.getfield 32, 3) := by decide +kernel
theorem dX11_letter_36 : decode cX11_letter 36 = .ok (.aload_n 0, 1) := by decide +kernel
theorem dX11_letter_37 : decode cX11_letter 37 = .ok (.getfield 175, 3) := by decide +kernel
theorem dX11_letter_40 : decode cX11_letter 40 = .ok (.aload_n 0, 1) := by decide +kernel
theorem dX11_letter_41 : decode cX11_letter 41 = .ok (.getfield 178, 3) := by decide +kernel
theorem dX11_letter_44 : decode cX11_letter 44 = .ok (.iastore, 1) := by decide +kernel
theorem dX11_letter_45 : decode cX11_letter 45 = .ok (.aload_n 0, 1) := by decide +kernel
theorem dX11_letter_46 : decode cX11_letter 46 = .ok (.dup, 1) := by decide +kernel
theorem dX11_letter_47 : decode cX11_letter 47 = .ok (.getfield 175, 3) := by decide +kernel
theorem dX11_letter_50 : decode cX11_letter 50 = .ok (.iconst 1, 1) := by decide +kernel
theorem dX11_letter_51 : decode cX11_letter 51 = .ok (.iadd, 1) := by decide +kernel
theorem dX11_letter_52 : decode cX11_letter 52 = .ok (.putfield 175, 3) := by decide +kernel
theorem dX11_letter_55 : decode cX11_letter 55 = .ok (.aload_n 0, 1) := by decide +kernel
theorem dX11_letter_56 : decode cX11_letter 56 = .ok (.getfield 175, 3) := by decide +kernel
theorem dX11_letter_59 : decode cX11_letter 59 = .ok (.ireturn, 1) := by decide +kernel
theorem dX11_knownAt_0 : decode cX11_knownAt 0 = .ok (.aload_n 0, 1) := by decide +kernel
theorem dX11_knownAt_1 : decode cX11_knownAt 1 = .ok (.iload_n 1, 1) := by decide +kernel
theorem dX11_knownAt_2 : decode cX11_knownAt 2 = .ok (.invokevirtual 181, 3) := by decide +kernel
theorem dX11_knownAt_5 : decode cX11_knownAt 5 = .ok (.bipush 39, 2) := by decide +kernel
theorem dX11_knownAt_7 : decode cX11_knownAt 7 = .ok (.iadd, 1) := by decide +kernel
theorem dX11_knownAt_8 : decode cX11_knownAt 8 = .ok (.bipush 40, 2) := by decide +kernel
theorem dX11_knownAt_10 : decode cX11_knownAt 10 = .ok (.idiv, 1) := by decide +kernel
theorem dX11_knownAt_11 : decode cX11_knownAt 11 = .ok (.istore_n 3, 1) := by decide +kernel
theorem dX11_knownAt_12 : decode cX11_knownAt 12 = .ok (.iconst 0, 1) := by decide +kernel
theorem dX11_knownAt_13 : decode cX11_knownAt 13 = .ok (.istore 4, 2) := by decide +kernel
theorem dX11_knownAt_15 : decode cX11_knownAt 15 = .ok (.iconst 0, 1) := by decide +kernel
theorem dX11_knownAt_16 : decode cX11_knownAt 16 = .ok (.istore 5, 2) := by decide +kernel
theorem dX11_knownAt_18 : decode cX11_knownAt 18 = .ok (.iload 5, 2) := by decide +kernel
theorem dX11_knownAt_20 : decode cX11_knownAt 20 = .ok (.aload_n 0, 1) := by decide +kernel
theorem dX11_knownAt_21 : decode cX11_knownAt 21 = .ok (.getfield 175, 3) := by decide +kernel
theorem dX11_knownAt_24 : decode cX11_knownAt 24 = .ok (.if_icmp .ge 36, 3) := by decide +kernel
theorem dX11_knownAt_27 : decode cX11_knownAt 27 = .ok (.aload_n 0, 1) := by decide +kernel
theorem dX11_knownAt_28 : decode cX11_knownAt 28 = .ok (.getfield 32, 3) := by decide +kernel
theorem dX11_knownAt_31 : decode cX11_knownAt 31 = .ok (.iload 5, 2) := by decide +kernel
theorem dX11_knownAt_33 : decode cX11_knownAt 33 = .ok (.iaload, 1) := by decide +kernel
theorem dX11_knownAt_34 : decode cX11_knownAt 34 = .ok (.iload_n 3, 1) := by decide +kernel
theorem dX11_knownAt_35 : decode cX11_knownAt 35 = .ok (.iadd, 1) := by decide +kernel
theorem dX11_knownAt_36 : decode cX11_knownAt 36 = .ok (.iload_n 2, 1) := by decide +kernel
theorem dX11_knownAt_37 : decode cX11_knownAt 37 = .ok (.if_icmp .gt 13, 3) := by decide +kernel
theorem dX11_knownAt_40 : decode cX11_knownAt 40 = .ok (.aload_n 0, 1) := by decide +kernel
theorem dX11_knownAt_41 : decode cX11_knownAt 41 = .ok (.getfield 29, 3) := by decide +kernel
theorem dX11_knownAt_44 : decode cX11_knownAt 44 = .ok (.iload 5, 2) := by decide +kernel
theorem dX11_knownAt_46 : decode cX11_knownAt 46 = .ok (.iaload, 1) := by decide +kernel
theorem dX11_knownAt_47 : decode cX11_knownAt 47 = .ok (.goto 5, 3) := by decide +kernel
theorem dX11_knownAt_50 : decode cX11_knownAt 50 = .ok (.iload 4, 2) := by decide +kernel
theorem dX11_knownAt_52 : decode cX11_knownAt 52 = .ok (.istore 4, 2) := by decide +kernel
theorem dX11_knownAt_54 : decode cX11_knownAt 54 = .ok (.iinc 5 1, 3) := by decide +kernel
theorem dX11_knownAt_57 : decode cX11_knownAt 57 = .ok (.goto (-39), 3) := by decide +kernel
theorem dX11_knownAt_60 : decode cX11_knownAt 60 = .ok (.iload 4, 2) := by decide +kernel
theorem dX11_knownAt_62 : decode cX11_knownAt 62 = .ok (.ireturn, 1) := by decide +kernel
theorem dX11_known_0 : decode cX11_known 0 = .ok (.aload_n 0, 1) := by decide +kernel
theorem dX11_known_1 : decode cX11_known 1 = .ok (.iload_n 1, 1) := by decide +kernel
theorem dX11_known_2 : decode cX11_known 2 = .ok (.invokevirtual 167, 3) := by decide +kernel
theorem dX11_known_5 : decode cX11_known 5 = .ok (.ifCond .eq 15, 3) := by decide +kernel
theorem dX11_known_8 : decode cX11_known 8 = .ok (.aload_n 0, 1) := by decide +kernel
theorem dX11_known_9 : decode cX11_known 9 = .ok (.iload_n 1, 1) := by decide +kernel
theorem dX11_known_10 : decode cX11_known 10 = .ok (.aload_n 0, 1) := by decide +kernel
theorem dX11_known_11 : decode cX11_known 11 = .ok (.getfield 178, 3) := by decide +kernel
theorem dX11_known_14 : decode cX11_known 14 = .ok (.invokevirtual 185, 3) := by decide +kernel
theorem dX11_known_17 : decode cX11_known 17 = .ok (.goto 4, 3) := by decide +kernel
theorem dX11_known_20 : decode cX11_known 20 = .ok (.iconst (-1), 1) := by decide +kernel
theorem dX11_known_21 : decode cX11_known 21 = .ok (.ireturn, 1) := by decide +kernel
theorem dX11_isHerd_0 : decode cX11_isHerd 0 = .ok (.iload_n 1, 1) := by decide +kernel
theorem dX11_isHerd_1 : decode cX11_isHerd 1 = .ok (.ifCond .lt 15, 3) := by decide +kernel
theorem dX11_isHerd_4 : decode cX11_isHerd 4 = .ok (.iload_n 1, 1) := by decide +kernel
theorem dX11_isHerd_5 : decode cX11_isHerd 5 = .ok (.aload_n 0, 1) := by decide +kernel
theorem dX11_isHerd_6 : decode cX11_isHerd 6 = .ok (.getfield 160, 3) := by decide +kernel
theorem dX11_isHerd_9 : decode cX11_isHerd 9 = .ok (.if_icmp .ge 7, 3) := by decide +kernel
theorem dX11_isHerd_12 : decode cX11_isHerd 12 = .ok (.iconst 1, 1) := by decide +kernel
theorem dX11_isHerd_13 : decode cX11_isHerd 13 = .ok (.goto 4, 3) := by decide +kernel
theorem dX11_isHerd_16 : decode cX11_isHerd 16 = .ok (.iconst 0, 1) := by decide +kernel
theorem dX11_isHerd_17 : decode cX11_isHerd 17 = .ok (.ireturn, 1) := by decide +kernel
theorem dX11_herd_0 : decode cX11_herd 0 = .ok (.aload_n 0, 1) := by decide +kernel
theorem dX11_herd_1 : decode cX11_herd 1 = .ok (.getfield 160, 3) := by decide +kernel
theorem dX11_herd_4 : decode cX11_herd 4 = .ok (.bipush 6, 2) := by decide +kernel
theorem dX11_herd_6 : decode cX11_herd 6 = .ok (.if_icmp .eq 56, 3) := by decide +kernel
theorem dX11_herd_9 : decode cX11_herd 9 = .ok (.iload_n 1, 1) := by decide +kernel
theorem dX11_herd_10 : decode cX11_herd 10 = .ok (.iconst 1, 1) := by decide +kernel
theorem dX11_herd_11 : decode cX11_herd 11 = .ok (.if_icmp .lt 51, 3) := by decide +kernel
theorem dX11_herd_14 : decode cX11_herd 14 = .ok (.iload_n 1, 1) := by decide +kernel
theorem dX11_herd_15 : decode cX11_herd 15 = .ok (.sipush 500, 3) := by decide +kernel
theorem dX11_herd_18 : decode cX11_herd 18 = .ok (.if_icmp .gt 44, 3) := by decide +kernel
theorem dX11_herd_21 : decode cX11_herd 21 = .ok (.iload_n 2, 1) := by decide +kernel
theorem dX11_herd_22 : decode cX11_herd 22 = .ok (.bipush 100, 2) := by decide +kernel
theorem dX11_herd_24 : decode cX11_herd 24 = .ok (.if_icmp .lt 38, 3) := by decide +kernel
theorem dX11_herd_27 : decode cX11_herd 27 = .ok (.iload_n 2, 1) := by decide +kernel
theorem dX11_herd_28 : decode cX11_herd 28 = .ok (.sipush 600, 3) := by decide +kernel
theorem dX11_herd_31 : decode cX11_herd 31 = .ok (.if_icmp .gt 31, 3) := by decide +kernel
theorem dX11_herd_34 : decode cX11_herd 34 = .ok (.iload_n 3, 1) := by decide +kernel
theorem dX11_herd_35 : decode cX11_herd 35 = .ok (.iconst 1, 1) := by decide +kernel
theorem dX11_herd_36 : decode cX11_herd 36 = .ok (.if_icmp .lt 26, 3) := by decide +kernel
theorem dX11_herd_39 : decode cX11_herd 39 = .ok (.iload_n 3, 1) := by decide +kernel
theorem dX11_herd_40 : decode cX11_herd 40 = .ok (.bipush 20, 2) := by decide +kernel
theorem dX11_herd_42 : decode cX11_herd 42 = .ok (.if_icmp .gt 20, 3) := by decide +kernel
theorem dX11_herd_45 : decode cX11_herd 45 = .ok (.iload 4, 2) := by decide +kernel
theorem dX11_herd_47 : decode cX11_herd 47 = .ok (.aload_n 0, 1) := by decide +kernel
theorem dX11_herd_48 : decode cX11_herd 48 = .ok (.getfield 178, 3) := by decide +kernel
theorem dX11_herd_51 : decode cX11_herd 51 = .ok (.if_icmp .lt 11, 3) := by decide +kernel
theorem dX11_herd_54 : decode cX11_herd 54 = .ok (.iload 4, 2) := by decide +kernel
theorem dX11_herd_56 : decode cX11_herd 56 = .ok (.sipush 10000, 3) := by decide +kernel
theorem dX11_herd_59 : decode cX11_herd 59 = .ok (.if_icmp .le 5, 3) := by decide +kernel
theorem dX11_herd_62 : decode cX11_herd 62 = .ok (.iconst (-1), 1) := by decide +kernel
theorem dX11_herd_63 : decode cX11_herd 63 = .ok (.ireturn, 1) := by decide +kernel
theorem dX11_herd_64 : decode cX11_herd 64 = .ok (.aload_n 0, 1) := by decide +kernel
theorem dX11_herd_65 : decode cX11_herd 65 = .ok (.getfield 160, 3) := by decide +kernel
theorem dX11_herd_68 : decode cX11_herd 68 = .ok (.istore 5, 2) := by decide +kernel
theorem dX11_herd_70 : decode cX11_herd 70 = .ok (.aload_n 0, 1) := by decide +kernel
theorem dX11_herd_71 : decode cX11_herd 71 = .ok (.getfield 35, 3) := by decide +kernel
theorem dX11_herd_74 : decode cX11_herd 74 = .ok (.iload 5, 2) := by decide +kernel
theorem dX11_herd_76 : decode cX11_herd 76 = .ok (.iload_n 1, 1) := by decide +kernel
theorem dX11_herd_77 : decode cX11_herd 77 = .ok (.iastore, 1) := by decide +kernel
theorem dX11_herd_78 : decode cX11_herd 78 = .ok (.aload_n 0, 1) := by decide +kernel
theorem dX11_herd_79 : decode cX11_herd 79 = .ok (.getfield 38, 3) := by decide +kernel
theorem dX11_herd_82 : decode cX11_herd 82 = .ok (.iload 5, 2) := by decide +kernel
theorem dX11_herd_84 : decode cX11_herd 84 = .ok (.iload_n 2, 1) := by decide +kernel
theorem dX11_herd_85 : decode cX11_herd 85 = .ok (.iastore, 1) := by decide +kernel
theorem dX11_herd_86 : decode cX11_herd 86 = .ok (.aload_n 0, 1) := by decide +kernel
theorem dX11_herd_87 : decode cX11_herd 87 = .ok (.getfield 41, 3) := by decide +kernel
theorem dX11_herd_90 : decode cX11_herd 90 = .ok (.iload 5, 2) := by decide +kernel
theorem dX11_herd_92 : decode cX11_herd 92 = .ok (.iload_n 3, 1) := by decide +kernel
theorem dX11_herd_93 : decode cX11_herd 93 = .ok (.iastore, 1) := by decide +kernel
theorem dX11_herd_94 : decode cX11_herd 94 = .ok (.aload_n 0, 1) := by decide +kernel
theorem dX11_herd_95 : decode cX11_herd 95 = .ok (.getfield 44, 3) := by decide +kernel
theorem dX11_herd_98 : decode cX11_herd 98 = .ok (.iload 5, 2) := by decide +kernel
theorem dX11_herd_100 : decode cX11_herd 100 = .ok (.iload 4, 2) := by decide +kernel
theorem dX11_herd_102 : decode cX11_herd 102 = .ok (.iastore, 1) := by decide +kernel
theorem dX11_herd_103 : decode cX11_herd 103 = .ok (.aload_n 0, 1) := by decide +kernel
theorem dX11_herd_104 : decode cX11_herd 104 = .ok (.dup, 1) := by decide +kernel
theorem dX11_herd_105 : decode cX11_herd 105 = .ok (.getfield 160, 3) := by decide +kernel
theorem dX11_herd_108 : decode cX11_herd 108 = .ok (.iconst 1, 1) := by decide +kernel
theorem dX11_herd_109 : decode cX11_herd 109 = .ok (.iadd, 1) := by decide +kernel
theorem dX11_herd_110 : decode cX11_herd 110 = .ok (.putfield 160, 3) := by decide +kernel
theorem dX11_herd_113 : decode cX11_herd 113 = .ok (.iload 5, 2) := by decide +kernel
theorem dX11_herd_115 : decode cX11_herd 115 = .ok (.ireturn, 1) := by decide +kernel
theorem dX11_of_0 : decode cX11_of 0 = .ok (.aload_n 0, 1) := by decide +kernel
theorem dX11_of_1 : decode cX11_of 1 = .ok (.iload_n 1, 1) := by decide +kernel
theorem dX11_of_2 : decode cX11_of 2 = .ok (.invokevirtual 189, 3) := by decide +kernel
theorem dX11_of_5 : decode cX11_of 5 = .ok (.ifCond .ne 5, 3) := by decide +kernel
theorem dX11_of_8 : decode cX11_of 8 = .ok (.iconst (-1), 1) := by decide +kernel
theorem dX11_of_9 : decode cX11_of 9 = .ok (.ireturn, 1) := by decide +kernel
theorem dX11_of_10 : decode cX11_of 10 = .ok (.iload_n 2, 1) := by decide +kernel
theorem dX11_of_11 : decode cX11_of 11 = .ok (.tableswitch 123 0 9 #[53, 60, 67, 74, 81, 88, 95, 102, 109, 116], 53) := by decide +kernel
theorem dX11_of_64 : decode cX11_of 64 = .ok (.aload_n 0, 1) := by decide +kernel
theorem dX11_of_65 : decode cX11_of 65 = .ok (.getfield 35, 3) := by decide +kernel
theorem dX11_of_68 : decode cX11_of 68 = .ok (.iload_n 1, 1) := by decide +kernel
theorem dX11_of_69 : decode cX11_of 69 = .ok (.iaload, 1) := by decide +kernel
theorem dX11_of_70 : decode cX11_of 70 = .ok (.ireturn, 1) := by decide +kernel
theorem dX11_of_71 : decode cX11_of 71 = .ok (.aload_n 0, 1) := by decide +kernel
theorem dX11_of_72 : decode cX11_of 72 = .ok (.getfield 38, 3) := by decide +kernel
theorem dX11_of_75 : decode cX11_of 75 = .ok (.iload_n 1, 1) := by decide +kernel
theorem dX11_of_76 : decode cX11_of 76 = .ok (.iaload, 1) := by decide +kernel
theorem dX11_of_77 : decode cX11_of 77 = .ok (.ireturn, 1) := by decide +kernel
theorem dX11_of_78 : decode cX11_of 78 = .ok (.aload_n 0, 1) := by decide +kernel
theorem dX11_of_79 : decode cX11_of 79 = .ok (.getfield 47, 3) := by decide +kernel
theorem dX11_of_82 : decode cX11_of 82 = .ok (.iload_n 1, 1) := by decide +kernel
theorem dX11_of_83 : decode cX11_of 83 = .ok (.iaload, 1) := by decide +kernel
theorem dX11_of_84 : decode cX11_of 84 = .ok (.ireturn, 1) := by decide +kernel
theorem dX11_of_85 : decode cX11_of 85 = .ok (.aload_n 0, 1) := by decide +kernel
theorem dX11_of_86 : decode cX11_of 86 = .ok (.getfield 50, 3) := by decide +kernel
theorem dX11_of_89 : decode cX11_of 89 = .ok (.iload_n 1, 1) := by decide +kernel
theorem dX11_of_90 : decode cX11_of 90 = .ok (.iaload, 1) := by decide +kernel
theorem dX11_of_91 : decode cX11_of 91 = .ok (.ireturn, 1) := by decide +kernel
theorem dX11_of_92 : decode cX11_of 92 = .ok (.aload_n 0, 1) := by decide +kernel
theorem dX11_of_93 : decode cX11_of 93 = .ok (.getfield 53, 3) := by decide +kernel
theorem dX11_of_96 : decode cX11_of 96 = .ok (.iload_n 1, 1) := by decide +kernel
theorem dX11_of_97 : decode cX11_of 97 = .ok (.iaload, 1) := by decide +kernel
theorem dX11_of_98 : decode cX11_of 98 = .ok (.ireturn, 1) := by decide +kernel
theorem dX11_of_99 : decode cX11_of 99 = .ok (.aload_n 0, 1) := by decide +kernel
theorem dX11_of_100 : decode cX11_of 100 = .ok (.getfield 56, 3) := by decide +kernel
theorem dX11_of_103 : decode cX11_of 103 = .ok (.iload_n 1, 1) := by decide +kernel
theorem dX11_of_104 : decode cX11_of 104 = .ok (.iaload, 1) := by decide +kernel
theorem dX11_of_105 : decode cX11_of 105 = .ok (.ireturn, 1) := by decide +kernel
theorem dX11_of_106 : decode cX11_of 106 = .ok (.aload_n 0, 1) := by decide +kernel
theorem dX11_of_107 : decode cX11_of 107 = .ok (.getfield 59, 3) := by decide +kernel
theorem dX11_of_110 : decode cX11_of 110 = .ok (.iload_n 1, 1) := by decide +kernel
theorem dX11_of_111 : decode cX11_of 111 = .ok (.iaload, 1) := by decide +kernel
theorem dX11_of_112 : decode cX11_of 112 = .ok (.ireturn, 1) := by decide +kernel
theorem dX11_of_113 : decode cX11_of 113 = .ok (.aload_n 0, 1) := by decide +kernel
theorem dX11_of_114 : decode cX11_of 114 = .ok (.getfield 62, 3) := by decide +kernel
theorem dX11_of_117 : decode cX11_of 117 = .ok (.iload_n 1, 1) := by decide +kernel
theorem dX11_of_118 : decode cX11_of 118 = .ok (.iaload, 1) := by decide +kernel
theorem dX11_of_119 : decode cX11_of 119 = .ok (.ireturn, 1) := by decide +kernel
theorem dX11_of_120 : decode cX11_of 120 = .ok (.aload_n 0, 1) := by decide +kernel
theorem dX11_of_121 : decode cX11_of 121 = .ok (.getfield 83, 3) := by decide +kernel
theorem dX11_of_124 : decode cX11_of 124 = .ok (.iload_n 1, 1) := by decide +kernel
theorem dX11_of_125 : decode cX11_of 125 = .ok (.iaload, 1) := by decide +kernel
theorem dX11_of_126 : decode cX11_of 126 = .ok (.ireturn, 1) := by decide +kernel
theorem dX11_of_127 : decode cX11_of 127 = .ok (.aload_n 0, 1) := by decide +kernel
theorem dX11_of_128 : decode cX11_of 128 = .ok (.getfield 65, 3) := by decide +kernel
theorem dX11_of_131 : decode cX11_of 131 = .ok (.iload_n 1, 1) := by decide +kernel
theorem dX11_of_132 : decode cX11_of 132 = .ok (.iaload, 1) := by decide +kernel
theorem dX11_of_133 : decode cX11_of 133 = .ok (.ireturn, 1) := by decide +kernel
theorem dX11_of_134 : decode cX11_of 134 = .ok (.iconst (-1), 1) := by decide +kernel
theorem dX11_of_135 : decode cX11_of 135 = .ok (.ireturn, 1) := by decide +kernel
theorem dX11_at_0 : decode cX11_at 0 = .ok (.aload_n 0, 1) := by decide +kernel
theorem dX11_at_1 : decode cX11_at 1 = .ok (.iload_n 1, 1) := by decide +kernel
theorem dX11_at_2 : decode cX11_at 2 = .ok (.invokevirtual 167, 3) := by decide +kernel
theorem dX11_at_5 : decode cX11_at 5 = .ok (.ifCond .ne 5, 3) := by decide +kernel
theorem dX11_at_8 : decode cX11_at 8 = .ok (.iconst (-1), 1) := by decide +kernel
theorem dX11_at_9 : decode cX11_at 9 = .ok (.ireturn, 1) := by decide +kernel
theorem dX11_at_10 : decode cX11_at 10 = .ok (.iload_n 2, 1) := by decide +kernel
theorem dX11_at_11 : decode cX11_at 11 = .ok (.tableswitch 67 0 4 #[33, 40, 47, 54, 60], 33) := by decide +kernel
theorem dX11_at_44 : decode cX11_at 44 = .ok (.aload_n 0, 1) := by decide +kernel
theorem dX11_at_45 : decode cX11_at 45 = .ok (.getfield 17, 3) := by decide +kernel
theorem dX11_at_48 : decode cX11_at 48 = .ok (.iload_n 1, 1) := by decide +kernel
theorem dX11_at_49 : decode cX11_at 49 = .ok (.iaload, 1) := by decide +kernel
theorem dX11_at_50 : decode cX11_at 50 = .ok (.ireturn, 1) := by decide +kernel
theorem dX11_at_51 : decode cX11_at 51 = .ok (.aload_n 0, 1) := by decide +kernel
theorem dX11_at_52 : decode cX11_at 52 = .ok (.getfield 20, 3) := by decide +kernel
theorem dX11_at_55 : decode cX11_at 55 = .ok (.iload_n 1, 1) := by decide +kernel
theorem dX11_at_56 : decode cX11_at 56 = .ok (.iaload, 1) := by decide +kernel
theorem dX11_at_57 : decode cX11_at 57 = .ok (.ireturn, 1) := by decide +kernel
theorem dX11_at_58 : decode cX11_at 58 = .ok (.aload_n 0, 1) := by decide +kernel
theorem dX11_at_59 : decode cX11_at 59 = .ok (.getfield 23, 3) := by decide +kernel
theorem dX11_at_62 : decode cX11_at 62 = .ok (.iload_n 1, 1) := by decide +kernel
theorem dX11_at_63 : decode cX11_at 63 = .ok (.iaload, 1) := by decide +kernel
theorem dX11_at_64 : decode cX11_at 64 = .ok (.ireturn, 1) := by decide +kernel
theorem dX11_at_65 : decode cX11_at 65 = .ok (.aload_n 0, 1) := by decide +kernel
theorem dX11_at_66 : decode cX11_at 66 = .ok (.iload_n 1, 1) := by decide +kernel
theorem dX11_at_67 : decode cX11_at 67 = .ok (.invokevirtual 181, 3) := by decide +kernel
theorem dX11_at_70 : decode cX11_at 70 = .ok (.ireturn, 1) := by decide +kernel
theorem dX11_at_71 : decode cX11_at 71 = .ok (.aload_n 0, 1) := by decide +kernel
theorem dX11_at_72 : decode cX11_at 72 = .ok (.getfield 26, 3) := by decide +kernel
theorem dX11_at_75 : decode cX11_at 75 = .ok (.iload_n 1, 1) := by decide +kernel
theorem dX11_at_76 : decode cX11_at 76 = .ok (.iaload, 1) := by decide +kernel
theorem dX11_at_77 : decode cX11_at 77 = .ok (.ireturn, 1) := by decide +kernel
theorem dX11_at_78 : decode cX11_at 78 = .ok (.iconst (-1), 1) := by decide +kernel
theorem dX11_at_79 : decode cX11_at 79 = .ok (.ireturn, 1) := by decide +kernel
theorem dX11_feed_0 : decode cX11_feed 0 = .ok (.aload_n 0, 1) := by decide +kernel
theorem dX11_feed_1 : decode cX11_feed 1 = .ok (.getfield 192, 3) := by decide +kernel
theorem dX11_feed_4 : decode cX11_feed 4 = .ok (.bipush 20, 2) := by decide +kernel
theorem dX11_feed_6 : decode cX11_feed 6 = .ok (.iadd, 1) := by decide +kernel
theorem dX11_feed_7 : decode cX11_feed 7 = .ok (.sipush 500, 3) := by decide +kernel
theorem dX11_feed_10 : decode cX11_feed 10 = .ok (.if_icmp .le 5, 3) := by decide +kernel
theorem dX11_feed_13 : decode cX11_feed 13 = .ok (.iconst (-1), 1) := by decide +kernel
theorem dX11_feed_14 : decode cX11_feed 14 = .ok (.ireturn, 1) := by decide +kernel
theorem dX11_feed_15 : decode cX11_feed 15 = .ok (.aload_n 0, 1) := by decide +kernel
theorem dX11_feed_16 : decode cX11_feed 16 = .ok (.iload_n 1, 1) := by decide +kernel
theorem dX11_feed_17 : decode cX11_feed 17 = .ok (.invokevirtual 195, 3) := by decide +kernel
theorem dX11_feed_20 : decode cX11_feed 20 = .ok (.aload_n 0, 1) := by decide +kernel
theorem dX11_feed_21 : decode cX11_feed 21 = .ok (.iload_n 2, 1) := by decide +kernel
theorem dX11_feed_22 : decode cX11_feed 22 = .ok (.invokevirtual 195, 3) := by decide +kernel
theorem dX11_feed_25 : decode cX11_feed 25 = .ok (.aload_n 0, 1) := by decide +kernel
theorem dX11_feed_26 : decode cX11_feed 26 = .ok (.iload_n 3, 1) := by decide +kernel
theorem dX11_feed_27 : decode cX11_feed 27 = .ok (.invokevirtual 195, 3) := by decide +kernel
theorem dX11_feed_30 : decode cX11_feed 30 = .ok (.aload_n 0, 1) := by decide +kernel
theorem dX11_feed_31 : decode cX11_feed 31 = .ok (.iload 4, 2) := by decide +kernel
theorem dX11_feed_33 : decode cX11_feed 33 = .ok (.invokevirtual 195, 3) := by decide +kernel
theorem dX11_feed_36 : decode cX11_feed 36 = .ok (.aload_n 0, 1) := by decide +kernel
theorem dX11_feed_37 : decode cX11_feed 37 = .ok (.iload 5, 2) := by decide +kernel
theorem dX11_feed_39 : decode cX11_feed 39 = .ok (.invokevirtual 195, 3) := by decide +kernel
theorem dX11_feed_42 : decode cX11_feed 42 = .ok (.aload_n 0, 1) := by decide +kernel
theorem dX11_feed_43 : decode cX11_feed 43 = .ok (.getfield 192, 3) := by decide +kernel
theorem dX11_feed_46 : decode cX11_feed 46 = .ok (.ireturn, 1) := by decide +kernel
theorem dX11_four_0 : decode cX11_four 0 = .ok (.bipush 24, 2) := by decide +kernel
theorem dX11_four_2 : decode cX11_four 2 = .ok (.istore_n 2, 1) := by decide +kernel
theorem dX11_four_3 : decode cX11_four 3 = .ok (.iload_n 2, 1) := by decide +kernel
theorem dX11_four_4 : decode cX11_four 4 = .ok (.ifCond .lt 35, 3) := by decide +kernel
theorem dX11_four_7 : decode cX11_four 7 = .ok (.aload_n 0, 1) := by decide +kernel
theorem dX11_four_8 : decode cX11_four 8 = .ok (.getfield 101, 3) := by decide +kernel
theorem dX11_four_11 : decode cX11_four 11 = .ok (.aload_n 0, 1) := by decide +kernel
theorem dX11_four_12 : decode cX11_four 12 = .ok (.getfield 192, 3) := by decide +kernel
theorem dX11_four_15 : decode cX11_four 15 = .ok (.iload_n 1, 1) := by decide +kernel
theorem dX11_four_16 : decode cX11_four 16 = .ok (.iload_n 2, 1) := by decide +kernel
theorem dX11_four_17 : decode cX11_four 17 = .ok (.ishr, 1) := by decide +kernel
theorem dX11_four_18 : decode cX11_four 18 = .ok (.sipush 255, 3) := by decide +kernel
theorem dX11_four_21 : decode cX11_four 21 = .ok (.iand, 1) := by decide +kernel
theorem dX11_four_22 : decode cX11_four 22 = .ok (.iastore, 1) := by decide +kernel
theorem dX11_four_23 : decode cX11_four 23 = .ok (.aload_n 0, 1) := by decide +kernel
theorem dX11_four_24 : decode cX11_four 24 = .ok (.dup, 1) := by decide +kernel
theorem dX11_four_25 : decode cX11_four 25 = .ok (.getfield 192, 3) := by decide +kernel
theorem dX11_four_28 : decode cX11_four 28 = .ok (.iconst 1, 1) := by decide +kernel
theorem dX11_four_29 : decode cX11_four 29 = .ok (.iadd, 1) := by decide +kernel
theorem dX11_four_30 : decode cX11_four 30 = .ok (.putfield 192, 3) := by decide +kernel
theorem dX11_four_33 : decode cX11_four 33 = .ok (.iinc 2 (-8), 3) := by decide +kernel
theorem dX11_four_36 : decode cX11_four 36 = .ok (.goto (-33), 3) := by decide +kernel
theorem dX11_four_39 : decode cX11_four 39 = .ok (.return_, 1) := by decide +kernel
theorem dX11_end_0 : decode cX11_end 0 = .ok (.iload_n 1, 1) := by decide +kernel
theorem dX11_end_1 : decode cX11_end 1 = .ok (.ifCond .lt 11, 3) := by decide +kernel
theorem dX11_end_4 : decode cX11_end 4 = .ok (.iload_n 1, 1) := by decide +kernel
theorem dX11_end_5 : decode cX11_end 5 = .ok (.aload_n 0, 1) := by decide +kernel
theorem dX11_end_6 : decode cX11_end 6 = .ok (.getfield 192, 3) := by decide +kernel
theorem dX11_end_9 : decode cX11_end 9 = .ok (.if_icmp .le 5, 3) := by decide +kernel
theorem dX11_end_12 : decode cX11_end 12 = .ok (.iconst (-1), 1) := by decide +kernel
theorem dX11_end_13 : decode cX11_end 13 = .ok (.ireturn, 1) := by decide +kernel
theorem dX11_end_14 : decode cX11_end 14 = .ok (.aload_n 0, 1) := by decide +kernel
theorem dX11_end_15 : decode cX11_end 15 = .ok (.iload_n 1, 1) := by decide +kernel
theorem dX11_end_16 : decode cX11_end 16 = .ok (.putfield 192, 3) := by decide +kernel
theorem dX11_end_19 : decode cX11_end 19 = .ok (.iload_n 1, 1) := by decide +kernel
theorem dX11_end_20 : decode cX11_end 20 = .ok (.ireturn, 1) := by decide +kernel
theorem dX11_here_0 : decode cX11_here 0 = .ok (.aload_n 0, 1) := by decide +kernel
theorem dX11_here_1 : decode cX11_here 1 = .ok (.getfield 199, 3) := by decide +kernel
theorem dX11_here_4 : decode cX11_here 4 = .ok (.iload_n 1, 1) := by decide +kernel
theorem dX11_here_5 : decode cX11_here 5 = .ok (.iadd, 1) := by decide +kernel
theorem dX11_here_6 : decode cX11_here 6 = .ok (.aload_n 0, 1) := by decide +kernel
theorem dX11_here_7 : decode cX11_here 7 = .ok (.getfield 202, 3) := by decide +kernel
theorem dX11_here_10 : decode cX11_here 10 = .ok (.if_icmp .ge 17, 3) := by decide +kernel
theorem dX11_here_13 : decode cX11_here 13 = .ok (.aload_n 0, 1) := by decide +kernel
theorem dX11_here_14 : decode cX11_here 14 = .ok (.getfield 101, 3) := by decide +kernel
theorem dX11_here_17 : decode cX11_here 17 = .ok (.aload_n 0, 1) := by decide +kernel
theorem dX11_here_18 : decode cX11_here 18 = .ok (.getfield 199, 3) := by decide +kernel
theorem dX11_here_21 : decode cX11_here 21 = .ok (.iload_n 1, 1) := by decide +kernel
theorem dX11_here_22 : decode cX11_here 22 = .ok (.iadd, 1) := by decide +kernel
theorem dX11_here_23 : decode cX11_here 23 = .ok (.iaload, 1) := by decide +kernel
theorem dX11_here_24 : decode cX11_here 24 = .ok (.goto 4, 3) := by decide +kernel
theorem dX11_here_27 : decode cX11_here 27 = .ok (.iconst (-1), 1) := by decide +kernel
theorem dX11_here_28 : decode cX11_here 28 = .ok (.ireturn, 1) := by decide +kernel
theorem dX11_isLetter_0 : decode cX11_isLetter 0 = .ok (.iload_n 0, 1) := by decide +kernel
theorem dX11_isLetter_1 : decode cX11_isLetter 1 = .ok (.bipush 97, 2) := by decide +kernel
theorem dX11_isLetter_3 : decode cX11_isLetter 3 = .ok (.if_icmp .lt 13, 3) := by decide +kernel
theorem dX11_isLetter_6 : decode cX11_isLetter 6 = .ok (.iload_n 0, 1) := by decide +kernel
theorem dX11_isLetter_7 : decode cX11_isLetter 7 = .ok (.bipush 122, 2) := by decide +kernel
theorem dX11_isLetter_9 : decode cX11_isLetter 9 = .ok (.if_icmp .gt 7, 3) := by decide +kernel
theorem dX11_isLetter_12 : decode cX11_isLetter 12 = .ok (.iconst 1, 1) := by decide +kernel
theorem dX11_isLetter_13 : decode cX11_isLetter 13 = .ok (.goto 4, 3) := by decide +kernel
theorem dX11_isLetter_16 : decode cX11_isLetter 16 = .ok (.iconst 0, 1) := by decide +kernel
theorem dX11_isLetter_17 : decode cX11_isLetter 17 = .ok (.ireturn, 1) := by decide +kernel
theorem dX11_isDigit_0 : decode cX11_isDigit 0 = .ok (.iload_n 0, 1) := by decide +kernel
theorem dX11_isDigit_1 : decode cX11_isDigit 1 = .ok (.bipush 48, 2) := by decide +kernel
theorem dX11_isDigit_3 : decode cX11_isDigit 3 = .ok (.if_icmp .lt 13, 3) := by decide +kernel
theorem dX11_isDigit_6 : decode cX11_isDigit 6 = .ok (.iload_n 0, 1) := by decide +kernel
theorem dX11_isDigit_7 : decode cX11_isDigit 7 = .ok (.bipush 57, 2) := by decide +kernel
theorem dX11_isDigit_9 : decode cX11_isDigit 9 = .ok (.if_icmp .gt 7, 3) := by decide +kernel
theorem dX11_isDigit_12 : decode cX11_isDigit 12 = .ok (.iconst 1, 1) := by decide +kernel
theorem dX11_isDigit_13 : decode cX11_isDigit 13 = .ok (.goto 4, 3) := by decide +kernel
theorem dX11_isDigit_16 : decode cX11_isDigit 16 = .ok (.iconst 0, 1) := by decide +kernel
theorem dX11_isDigit_17 : decode cX11_isDigit 17 = .ok (.ireturn, 1) := by decide +kernel
theorem dX11_isSign_0 : decode cX11_isSign 0 = .ok (.iload_n 0, 1) := by decide +kernel
theorem dX11_isSign_1 : decode cX11_isSign 1 = .ok (.bipush 59, 2) := by decide +kernel
theorem dX11_isSign_3 : decode cX11_isSign 3 = .ok (.if_icmp .eq 45, 3) := by decide +kernel
theorem dX11_isSign_6 : decode cX11_isSign 6 = .ok (.iload_n 0, 1) := by decide +kernel
theorem dX11_isSign_7 : decode cX11_isSign 7 = .ok (.bipush 61, 2) := by decide +kernel
theorem dX11_isSign_9 : decode cX11_isSign 9 = .ok (.if_icmp .eq 39, 3) := by decide +kernel
theorem dX11_isSign_12 : decode cX11_isSign 12 = .ok (.iload_n 0, 1) := by decide +kernel
theorem dX11_isSign_13 : decode cX11_isSign 13 = .ok (.bipush 60, 2) := by decide +kernel
theorem dX11_isSign_15 : decode cX11_isSign 15 = .ok (.if_icmp .eq 33, 3) := by decide +kernel
theorem dX11_isSign_18 : decode cX11_isSign 18 = .ok (.iload_n 0, 1) := by decide +kernel
theorem dX11_isSign_19 : decode cX11_isSign 19 = .ok (.bipush 62, 2) := by decide +kernel
theorem dX11_isSign_21 : decode cX11_isSign 21 = .ok (.if_icmp .eq 27, 3) := by decide +kernel
theorem dX11_isSign_24 : decode cX11_isSign 24 = .ok (.iload_n 0, 1) := by decide +kernel
theorem dX11_isSign_25 : decode cX11_isSign 25 = .ok (.bipush 43, 2) := by decide +kernel
theorem dX11_isSign_27 : decode cX11_isSign 27 = .ok (.if_icmp .eq 21, 3) := by decide +kernel
theorem dX11_isSign_30 : decode cX11_isSign 30 = .ok (.iload_n 0, 1) := by decide +kernel
theorem dX11_isSign_31 : decode cX11_isSign 31 = .ok (.bipush 45, 2) := by decide +kernel
theorem dX11_isSign_33 : decode cX11_isSign 33 = .ok (.if_icmp .eq 15, 3) := by decide +kernel
theorem dX11_isSign_36 : decode cX11_isSign 36 = .ok (.iload_n 0, 1) := by decide +kernel
theorem dX11_isSign_37 : decode cX11_isSign 37 = .ok (.bipush 40, 2) := by decide +kernel
theorem dX11_isSign_39 : decode cX11_isSign 39 = .ok (.if_icmp .eq 9, 3) := by decide +kernel
theorem dX11_isSign_42 : decode cX11_isSign 42 = .ok (.iload_n 0, 1) := by decide +kernel
theorem dX11_isSign_43 : decode cX11_isSign 43 = .ok (.bipush 41, 2) := by decide +kernel
theorem dX11_isSign_45 : decode cX11_isSign 45 = .ok (.if_icmp .ne 7, 3) := by decide +kernel
theorem dX11_isSign_48 : decode cX11_isSign 48 = .ok (.iconst 1, 1) := by decide +kernel
theorem dX11_isSign_49 : decode cX11_isSign 49 = .ok (.goto 4, 3) := by decide +kernel
theorem dX11_isSign_52 : decode cX11_isSign 52 = .ok (.iconst 0, 1) := by decide +kernel
theorem dX11_isSign_53 : decode cX11_isSign 53 = .ok (.ireturn, 1) := by decide +kernel
theorem dX11_next_0 : decode cX11_next 0 = .ok (.aload_n 0, 1) := by decide +kernel
theorem dX11_next_1 : decode cX11_next 1 = .ok (.iconst 0, 1) := by decide +kernel
theorem dX11_next_2 : decode cX11_next 2 = .ok (.invokevirtual 205, 3) := by decide +kernel
theorem dX11_next_5 : decode cX11_next 5 = .ok (.bipush 32, 2) := by decide +kernel
theorem dX11_next_7 : decode cX11_next 7 = .ok (.if_icmp .eq 13, 3) := by decide +kernel
theorem dX11_next_10 : decode cX11_next 10 = .ok (.aload_n 0, 1) := by decide +kernel
theorem dX11_next_11 : decode cX11_next 11 = .ok (.iconst 0, 1) := by decide +kernel
theorem dX11_next_12 : decode cX11_next 12 = .ok (.invokevirtual 205, 3) := by decide +kernel
theorem dX11_next_15 : decode cX11_next 15 = .ok (.bipush 10, 2) := by decide +kernel
theorem dX11_next_17 : decode cX11_next 17 = .ok (.if_icmp .ne 16, 3) := by decide +kernel
theorem dX11_next_20 : decode cX11_next 20 = .ok (.aload_n 0, 1) := by decide +kernel
theorem dX11_next_21 : decode cX11_next 21 = .ok (.dup, 1) := by decide +kernel
theorem dX11_next_22 : decode cX11_next 22 = .ok (.getfield 199, 3) := by decide +kernel
theorem dX11_next_25 : decode cX11_next 25 = .ok (.iconst 1, 1) := by decide +kernel
theorem dX11_next_26 : decode cX11_next 26 = .ok (.iadd, 1) := by decide +kernel
theorem dX11_next_27 : decode cX11_next 27 = .ok (.putfield 199, 3) := by decide +kernel
theorem dX11_next_30 : decode cX11_next 30 = .ok (.goto (-30), 3) := by decide +kernel
theorem dX11_next_33 : decode cX11_next 33 = .ok (.aload_n 0, 1) := by decide +kernel
theorem dX11_next_34 : decode cX11_next 34 = .ok (.aload_n 0, 1) := by decide +kernel
theorem dX11_next_35 : decode cX11_next 35 = .ok (.getfield 199, 3) := by decide +kernel
theorem dX11_next_38 : decode cX11_next 38 = .ok (.putfield 208, 3) := by decide +kernel
theorem dX11_next_41 : decode cX11_next 41 = .ok (.aload_n 0, 1) := by decide +kernel
theorem dX11_next_42 : decode cX11_next 42 = .ok (.iconst 0, 1) := by decide +kernel
theorem dX11_next_43 : decode cX11_next 43 = .ok (.invokevirtual 205, 3) := by decide +kernel
theorem dX11_next_46 : decode cX11_next 46 = .ok (.istore_n 1, 1) := by decide +kernel
theorem dX11_next_47 : decode cX11_next 47 = .ok (.iconst 0, 1) := by decide +kernel
theorem dX11_next_48 : decode cX11_next 48 = .ok (.istore_n 2, 1) := by decide +kernel
theorem dX11_next_49 : decode cX11_next 49 = .ok (.aload_n 0, 1) := by decide +kernel
theorem dX11_next_50 : decode cX11_next 50 = .ok (.lconst 0, 1) := by decide +kernel
theorem dX11_next_51 : decode cX11_next 51 = .ok (.putfield 211, 3) := by decide +kernel
theorem dX11_next_54 : decode cX11_next 54 = .ok (.aload_n 0, 1) := by decide +kernel
theorem dX11_next_55 : decode cX11_next 55 = .ok (.iconst 0, 1) := by decide +kernel
theorem dX11_next_56 : decode cX11_next 56 = .ok (.putfield 215, 3) := by decide +kernel
theorem dX11_next_59 : decode cX11_next 59 = .ok (.iload_n 1, 1) := by decide +kernel
theorem dX11_next_60 : decode cX11_next 60 = .ok (.ifCond .ge 11, 3) := by decide +kernel
theorem dX11_next_63 : decode cX11_next 63 = .ok (.aload_n 0, 1) := by decide +kernel
theorem dX11_next_64 : decode cX11_next 64 = .ok (.iconst 0, 1) := by decide +kernel
theorem dX11_next_65 : decode cX11_next 65 = .ok (.putfield 218, 3) := by decide +kernel
theorem dX11_next_68 : decode cX11_next 68 = .ok (.goto 166, 3) := by decide +kernel
theorem dX11_next_71 : decode cX11_next 71 = .ok (.iload_n 1, 1) := by decide +kernel
theorem dX11_next_72 : decode cX11_next 72 = .ok (.invokestatic 221, 3) := by decide +kernel
theorem dX11_next_75 : decode cX11_next 75 = .ok (.ifCond .eq 62, 3) := by decide +kernel
theorem dX11_next_78 : decode cX11_next 78 = .ok (.aload_n 0, 1) := by decide +kernel
theorem dX11_next_79 : decode cX11_next 79 = .ok (.iload_n 2, 1) := by decide +kernel
theorem dX11_next_80 : decode cX11_next 80 = .ok (.invokevirtual 205, 3) := by decide +kernel
theorem dX11_next_83 : decode cX11_next 83 = .ok (.invokestatic 221, 3) := by decide +kernel
theorem dX11_next_86 : decode cX11_next 86 = .ok (.ifCond .eq 33, 3) := by decide +kernel
theorem dX11_next_89 : decode cX11_next 89 = .ok (.iload_n 2, 1) := by decide +kernel
theorem dX11_next_90 : decode cX11_next 90 = .ok (.bipush 8, 2) := by decide +kernel
theorem dX11_next_92 : decode cX11_next 92 = .ok (.if_icmp .ge 21, 3) := by decide +kernel
theorem dX11_next_95 : decode cX11_next 95 = .ok (.aload_n 0, 1) := by decide +kernel
theorem dX11_next_96 : decode cX11_next 96 = .ok (.aload_n 0, 1) := by decide +kernel
theorem dX11_next_97 : decode cX11_next 97 = .ok (.getfield 211, 3) := by decide +kernel
theorem dX11_next_100 : decode cX11_next 100 = .ok (.bipush 8, 2) := by decide +kernel
theorem dX11_next_102 : decode cX11_next 102 = .ok (.lshl, 1) := by decide +kernel
theorem dX11_next_103 : decode cX11_next 103 = .ok (.aload_n 0, 1) := by decide +kernel
theorem dX11_next_104 : decode cX11_next 104 = .ok (.iload_n 2, 1) := by decide +kernel
theorem dX11_next_105 : decode cX11_next 105 = .ok (.invokevirtual 205, 3) := by decide +kernel
theorem dX11_next_108 : decode cX11_next 108 = .ok (.i2l, 1) := by decide +kernel
theorem dX11_next_109 : decode cX11_next 109 = .ok (.lor, 1) := by decide +kernel
theorem dX11_next_110 : decode cX11_next 110 = .ok (.putfield 211, 3) := by decide +kernel
theorem dX11_next_113 : decode cX11_next 113 = .ok (.iinc 2 1, 3) := by decide +kernel
theorem dX11_next_116 : decode cX11_next 116 = .ok (.goto (-38), 3) := by decide +kernel
theorem dX11_next_119 : decode cX11_next 119 = .ok (.aload_n 0, 1) := by decide +kernel
theorem dX11_next_120 : decode cX11_next 120 = .ok (.iload_n 2, 1) := by decide +kernel
theorem dX11_next_121 : decode cX11_next 121 = .ok (.bipush 8, 2) := by decide +kernel
theorem dX11_next_123 : decode cX11_next 123 = .ok (.if_icmp .le 7, 3) := by decide +kernel
theorem dX11_next_126 : decode cX11_next 126 = .ok (.iconst 3, 1) := by decide +kernel
theorem dX11_next_127 : decode cX11_next 127 = .ok (.goto 4, 3) := by decide +kernel
theorem dX11_next_130 : decode cX11_next 130 = .ok (.iconst 1, 1) := by decide +kernel
theorem dX11_next_131 : decode cX11_next 131 = .ok (.putfield 218, 3) := by decide +kernel
theorem dX11_next_134 : decode cX11_next 134 = .ok (.goto 100, 3) := by decide +kernel
theorem dX11_next_137 : decode cX11_next 137 = .ok (.iload_n 1, 1) := by decide +kernel
theorem dX11_next_138 : decode cX11_next 138 = .ok (.invokestatic 224, 3) := by decide +kernel
theorem dX11_next_141 : decode cX11_next 141 = .ok (.ifCond .eq 75, 3) := by decide +kernel
theorem dX11_next_144 : decode cX11_next 144 = .ok (.aload_n 0, 1) := by decide +kernel
theorem dX11_next_145 : decode cX11_next 145 = .ok (.iload_n 2, 1) := by decide +kernel
theorem dX11_next_146 : decode cX11_next 146 = .ok (.invokevirtual 205, 3) := by decide +kernel
theorem dX11_next_149 : decode cX11_next 149 = .ok (.invokestatic 224, 3) := by decide +kernel
theorem dX11_next_152 : decode cX11_next 152 = .ok (.ifCond .eq 35, 3) := by decide +kernel
theorem dX11_next_155 : decode cX11_next 155 = .ok (.iload_n 2, 1) := by decide +kernel
theorem dX11_next_156 : decode cX11_next 156 = .ok (.bipush 6, 2) := by decide +kernel
theorem dX11_next_158 : decode cX11_next 158 = .ok (.if_icmp .ge 23, 3) := by decide +kernel
theorem dX11_next_161 : decode cX11_next 161 = .ok (.aload_n 0, 1) := by decide +kernel
theorem dX11_next_162 : decode cX11_next 162 = .ok (.bipush 10, 2) := by decide +kernel
theorem dX11_next_164 : decode cX11_next 164 = .ok (.aload_n 0, 1) := by decide +kernel
theorem dX11_next_165 : decode cX11_next 165 = .ok (.getfield 215, 3) := by decide +kernel
theorem dX11_next_168 : decode cX11_next 168 = .ok (.imul, 1) := by decide +kernel
theorem dX11_next_169 : decode cX11_next 169 = .ok (.aload_n 0, 1) := by decide +kernel
theorem dX11_next_170 : decode cX11_next 170 = .ok (.iload_n 2, 1) := by decide +kernel
theorem dX11_next_171 : decode cX11_next 171 = .ok (.invokevirtual 205, 3) := by decide +kernel
theorem dX11_next_174 : decode cX11_next 174 = .ok (.iadd, 1) := by decide +kernel
theorem dX11_next_175 : decode cX11_next 175 = .ok (.bipush 48, 2) := by decide +kernel
theorem dX11_next_177 : decode cX11_next 177 = .ok (.isub, 1) := by decide +kernel
theorem dX11_next_178 : decode cX11_next 178 = .ok (.putfield 215, 3) := by decide +kernel
theorem dX11_next_181 : decode cX11_next 181 = .ok (.iinc 2 1, 3) := by decide +kernel
theorem dX11_next_184 : decode cX11_next 184 = .ok (.goto (-40), 3) := by decide +kernel
theorem dX11_next_187 : decode cX11_next 187 = .ok (.aload_n 0, 1) := by decide +kernel
theorem dX11_next_188 : decode cX11_next 188 = .ok (.iload_n 2, 1) := by decide +kernel
theorem dX11_next_189 : decode cX11_next 189 = .ok (.bipush 6, 2) := by decide +kernel
theorem dX11_next_191 : decode cX11_next 191 = .ok (.if_icmp .gt 14, 3) := by decide +kernel
theorem dX11_next_194 : decode cX11_next 194 = .ok (.aload_n 0, 1) := by decide +kernel
theorem dX11_next_195 : decode cX11_next 195 = .ok (.iload_n 2, 1) := by decide +kernel
theorem dX11_next_196 : decode cX11_next 196 = .ok (.invokevirtual 205, 3) := by decide +kernel
theorem dX11_next_199 : decode cX11_next 199 = .ok (.invokestatic 221, 3) := by decide +kernel
theorem dX11_next_202 : decode cX11_next 202 = .ok (.ifCond .eq 7, 3) := by decide +kernel
theorem dX11_next_205 : decode cX11_next 205 = .ok (.iconst 3, 1) := by decide +kernel
theorem dX11_next_206 : decode cX11_next 206 = .ok (.goto 4, 3) := by decide +kernel
theorem dX11_next_209 : decode cX11_next 209 = .ok (.iconst 2, 1) := by decide +kernel
theorem dX11_next_210 : decode cX11_next 210 = .ok (.putfield 218, 3) := by decide +kernel
theorem dX11_next_213 : decode cX11_next 213 = .ok (.goto 21, 3) := by decide +kernel
theorem dX11_next_216 : decode cX11_next 216 = .ok (.iconst 1, 1) := by decide +kernel
theorem dX11_next_217 : decode cX11_next 217 = .ok (.istore_n 2, 1) := by decide +kernel
theorem dX11_next_218 : decode cX11_next 218 = .ok (.aload_n 0, 1) := by decide +kernel
theorem dX11_next_219 : decode cX11_next 219 = .ok (.iload_n 1, 1) := by decide +kernel
theorem dX11_next_220 : decode cX11_next 220 = .ok (.invokestatic 227, 3) := by decide +kernel
theorem dX11_next_223 : decode cX11_next 223 = .ok (.ifCond .eq 7, 3) := by decide +kernel
theorem dX11_next_226 : decode cX11_next 226 = .ok (.iload_n 1, 1) := by decide +kernel
theorem dX11_next_227 : decode cX11_next 227 = .ok (.goto 4, 3) := by decide +kernel
theorem dX11_next_230 : decode cX11_next 230 = .ok (.iconst 3, 1) := by decide +kernel
theorem dX11_next_231 : decode cX11_next 231 = .ok (.putfield 218, 3) := by decide +kernel
theorem dX11_next_234 : decode cX11_next 234 = .ok (.aload_n 0, 1) := by decide +kernel
theorem dX11_next_235 : decode cX11_next 235 = .ok (.getfield 218, 3) := by decide +kernel
theorem dX11_next_238 : decode cX11_next 238 = .ok (.iconst 3, 1) := by decide +kernel
theorem dX11_next_239 : decode cX11_next 239 = .ok (.if_icmp .eq 13, 3) := by decide +kernel
theorem dX11_next_242 : decode cX11_next 242 = .ok (.aload_n 0, 1) := by decide +kernel
theorem dX11_next_243 : decode cX11_next 243 = .ok (.dup, 1) := by decide +kernel
theorem dX11_next_244 : decode cX11_next 244 = .ok (.getfield 199, 3) := by decide +kernel
theorem dX11_next_247 : decode cX11_next 247 = .ok (.iload_n 2, 1) := by decide +kernel
theorem dX11_next_248 : decode cX11_next 248 = .ok (.iadd, 1) := by decide +kernel
theorem dX11_next_249 : decode cX11_next 249 = .ok (.putfield 199, 3) := by decide +kernel
theorem dX11_next_252 : decode cX11_next 252 = .ok (.return_, 1) := by decide +kernel
theorem dX11_wrong_0 : decode cX11_wrong 0 = .ok (.aload_n 0, 1) := by decide +kernel
theorem dX11_wrong_1 : decode cX11_wrong 1 = .ok (.getfield 230, 3) := by decide +kernel
theorem dX11_wrong_4 : decode cX11_wrong 4 = .ok (.ifCond .le 4, 3) := by decide +kernel
theorem dX11_wrong_7 : decode cX11_wrong 7 = .ok (.return_, 1) := by decide +kernel
theorem dX11_wrong_8 : decode cX11_wrong 8 = .ok (.aload_n 0, 1) := by decide +kernel
theorem dX11_wrong_9 : decode cX11_wrong 9 = .ok (.aload_n 0, 1) := by decide +kernel
theorem dX11_wrong_10 : decode cX11_wrong 10 = .ok (.getfield 218, 3) := by decide +kernel
theorem dX11_wrong_13 : decode cX11_wrong 13 = .ok (.iconst 3, 1) := by decide +kernel
theorem dX11_wrong_14 : decode cX11_wrong 14 = .ok (.if_icmp .ne 7, 3) := by decide +kernel
theorem dX11_wrong_17 : decode cX11_wrong 17 = .ok (.iconst 1, 1) := by decide +kernel
theorem dX11_wrong_18 : decode cX11_wrong 18 = .ok (.goto 4, 3) := by decide +kernel
theorem dX11_wrong_21 : decode cX11_wrong 21 = .ok (.iload_n 1, 1) := by decide +kernel
theorem dX11_wrong_22 : decode cX11_wrong 22 = .ok (.putfield 230, 3) := by decide +kernel
theorem dX11_wrong_25 : decode cX11_wrong 25 = .ok (.aload_n 0, 1) := by decide +kernel
theorem dX11_wrong_26 : decode cX11_wrong 26 = .ok (.aload_n 0, 1) := by decide +kernel
theorem dX11_wrong_27 : decode cX11_wrong 27 = .ok (.getfield 208, 3) := by decide +kernel
theorem dX11_wrong_30 : decode cX11_wrong 30 = .ok (.putfield 104, 3) := by decide +kernel
theorem dX11_wrong_33 : decode cX11_wrong 33 = .ok (.return_, 1) := by decide +kernel
theorem dX11_isWord_0 : decode cX11_isWord 0 = .ok (.aload_n 0, 1) := by decide +kernel
theorem dX11_isWord_1 : decode cX11_isWord 1 = .ok (.getfield 218, 3) := by decide +kernel
theorem dX11_isWord_4 : decode cX11_isWord 4 = .ok (.iconst 1, 1) := by decide +kernel
theorem dX11_isWord_5 : decode cX11_isWord 5 = .ok (.if_icmp .ne 16, 3) := by decide +kernel
theorem dX11_isWord_8 : decode cX11_isWord 8 = .ok (.aload_n 0, 1) := by decide +kernel
theorem dX11_isWord_9 : decode cX11_isWord 9 = .ok (.getfield 211, 3) := by decide +kernel
theorem dX11_isWord_12 : decode cX11_isWord 12 = .ok (.lload_n 1, 1) := by decide +kernel
theorem dX11_isWord_13 : decode cX11_isWord 13 = .ok (.lcmp, 1) := by decide +kernel
theorem dX11_isWord_14 : decode cX11_isWord 14 = .ok (.ifCond .ne 7, 3) := by decide +kernel
theorem dX11_isWord_17 : decode cX11_isWord 17 = .ok (.iconst 1, 1) := by decide +kernel
theorem dX11_isWord_18 : decode cX11_isWord 18 = .ok (.goto 4, 3) := by decide +kernel
theorem dX11_isWord_21 : decode cX11_isWord 21 = .ok (.iconst 0, 1) := by decide +kernel
theorem dX11_isWord_22 : decode cX11_isWord 22 = .ok (.ireturn, 1) := by decide +kernel
theorem dX11_isKey_0 : decode cX11_isKey 0 = .ok (.aload_n 0, 1) := by decide +kernel
theorem dX11_isKey_1 : decode cX11_isKey 1 = .ok (.getfield 211, 3) := by decide +kernel
theorem dX11_isKey_4 : decode cX11_isKey 4 = .ok (.ldc2_w 233, 3) := by decide +kernel
theorem dX11_isKey_7 : decode cX11_isKey 7 = .ok (.lcmp, 1) := by decide +kernel
theorem dX11_isKey_8 : decode cX11_isKey 8 = .ok (.ifCond .eq 80, 3) := by decide +kernel
theorem dX11_isKey_11 : decode cX11_isKey 11 = .ok (.aload_n 0, 1) := by decide +kernel
theorem dX11_isKey_12 : decode cX11_isKey 12 = .ok (.getfield 211, 3) := by decide +kernel
theorem dX11_isKey_15 : decode cX11_isKey 15 = .ok (.ldc2_w 235, 3) := by decide +kernel
theorem dX11_isKey_18 : decode cX11_isKey 18 = .ok (.lcmp, 1) := by decide +kernel
theorem dX11_isKey_19 : decode cX11_isKey 19 = .ok (.ifCond .eq 69, 3) := by decide +kernel
theorem dX11_isKey_22 : decode cX11_isKey 22 = .ok (.aload_n 0, 1) := by decide +kernel
theorem dX11_isKey_23 : decode cX11_isKey 23 = .ok (.getfield 211, 3) := by decide +kernel
theorem dX11_isKey_26 : decode cX11_isKey 26 = .ok (.ldc2_w 237, 3) := by decide +kernel
theorem dX11_isKey_29 : decode cX11_isKey 29 = .ok (.lcmp, 1) := by decide +kernel
theorem dX11_isKey_30 : decode cX11_isKey 30 = .ok (.ifCond .eq 58, 3) := by decide +kernel
theorem dX11_isKey_33 : decode cX11_isKey 33 = .ok (.aload_n 0, 1) := by decide +kernel
theorem dX11_isKey_34 : decode cX11_isKey 34 = .ok (.getfield 211, 3) := by decide +kernel
theorem dX11_isKey_37 : decode cX11_isKey 37 = .ok (.ldc2_w 239, 3) := by decide +kernel
theorem dX11_isKey_40 : decode cX11_isKey 40 = .ok (.lcmp, 1) := by decide +kernel
theorem dX11_isKey_41 : decode cX11_isKey 41 = .ok (.ifCond .eq 47, 3) := by decide +kernel
theorem dX11_isKey_44 : decode cX11_isKey 44 = .ok (.aload_n 0, 1) := by decide +kernel
theorem dX11_isKey_45 : decode cX11_isKey 45 = .ok (.getfield 211, 3) := by decide +kernel
theorem dX11_isKey_48 : decode cX11_isKey 48 = .ok (.ldc2_w 241, 3) := by decide +kernel
theorem dX11_isKey_51 : decode cX11_isKey 51 = .ok (.lcmp, 1) := by decide +kernel
theorem dX11_isKey_52 : decode cX11_isKey 52 = .ok (.ifCond .eq 36, 3) := by decide +kernel
theorem dX11_isKey_55 : decode cX11_isKey 55 = .ok (.aload_n 0, 1) := by decide +kernel
theorem dX11_isKey_56 : decode cX11_isKey 56 = .ok (.getfield 211, 3) := by decide +kernel
theorem dX11_isKey_59 : decode cX11_isKey 59 = .ok (.ldc2_w 243, 3) := by decide +kernel
theorem dX11_isKey_62 : decode cX11_isKey 62 = .ok (.lcmp, 1) := by decide +kernel
theorem dX11_isKey_63 : decode cX11_isKey 63 = .ok (.ifCond .eq 25, 3) := by decide +kernel
theorem dX11_isKey_66 : decode cX11_isKey 66 = .ok (.aload_n 0, 1) := by decide +kernel
theorem dX11_isKey_67 : decode cX11_isKey 67 = .ok (.getfield 211, 3) := by decide +kernel
theorem dX11_isKey_70 : decode cX11_isKey 70 = .ok (.ldc2_w 245, 3) := by decide +kernel
theorem dX11_isKey_73 : decode cX11_isKey 73 = .ok (.lcmp, 1) := by decide +kernel
theorem dX11_isKey_74 : decode cX11_isKey 74 = .ok (.ifCond .eq 14, 3) := by decide +kernel
theorem dX11_isKey_77 : decode cX11_isKey 77 = .ok (.aload_n 0, 1) := by decide +kernel
theorem dX11_isKey_78 : decode cX11_isKey 78 = .ok (.getfield 211, 3) := by decide +kernel
theorem dX11_isKey_81 : decode cX11_isKey 81 = .ok (.ldc2_w 247, 3) := by decide +kernel
theorem dX11_isKey_84 : decode cX11_isKey 84 = .ok (.lcmp, 1) := by decide +kernel
theorem dX11_isKey_85 : decode cX11_isKey 85 = .ok (.ifCond .ne 7, 3) := by decide +kernel
theorem dX11_isKey_88 : decode cX11_isKey 88 = .ok (.iconst 1, 1) := by decide +kernel
theorem dX11_isKey_89 : decode cX11_isKey 89 = .ok (.goto 4, 3) := by decide +kernel
theorem dX11_isKey_92 : decode cX11_isKey 92 = .ok (.iconst 0, 1) := by decide +kernel
theorem dX11_isKey_93 : decode cX11_isKey 93 = .ok (.ireturn, 1) := by decide +kernel
theorem dX11_named_0 : decode cX11_named 0 = .ok (.aload_n 0, 1) := by decide +kernel
theorem dX11_named_1 : decode cX11_named 1 = .ok (.getfield 211, 3) := by decide +kernel
theorem dX11_named_4 : decode cX11_named 4 = .ok (.ldc2_w 249, 3) := by decide +kernel
theorem dX11_named_7 : decode cX11_named 7 = .ok (.lcmp, 1) := by decide +kernel
theorem dX11_named_8 : decode cX11_named 8 = .ok (.ifCond .ne 5, 3) := by decide +kernel
theorem dX11_named_11 : decode cX11_named 11 = .ok (.iconst 0, 1) := by decide +kernel
theorem dX11_named_12 : decode cX11_named 12 = .ok (.ireturn, 1) := by decide +kernel
theorem dX11_named_13 : decode cX11_named 13 = .ok (.aload_n 0, 1) := by decide +kernel
theorem dX11_named_14 : decode cX11_named 14 = .ok (.getfield 211, 3) := by decide +kernel
theorem dX11_named_17 : decode cX11_named 17 = .ok (.ldc2_w 251, 3) := by decide +kernel
theorem dX11_named_20 : decode cX11_named 20 = .ok (.lcmp, 1) := by decide +kernel
theorem dX11_named_21 : decode cX11_named 21 = .ok (.ifCond .ne 5, 3) := by decide +kernel
theorem dX11_named_24 : decode cX11_named 24 = .ok (.iconst 1, 1) := by decide +kernel
theorem dX11_named_25 : decode cX11_named 25 = .ok (.ireturn, 1) := by decide +kernel
theorem dX11_named_26 : decode cX11_named 26 = .ok (.aload_n 0, 1) := by decide +kernel
theorem dX11_named_27 : decode cX11_named 27 = .ok (.getfield 211, 3) := by decide +kernel
theorem dX11_named_30 : decode cX11_named 30 = .ok (.ldc2_w 253, 3) := by decide +kernel
theorem dX11_named_33 : decode cX11_named 33 = .ok (.lcmp, 1) := by decide +kernel
theorem dX11_named_34 : decode cX11_named 34 = .ok (.ifCond .ne 5, 3) := by decide +kernel
theorem dX11_named_37 : decode cX11_named 37 = .ok (.iconst 2, 1) := by decide +kernel
theorem dX11_named_38 : decode cX11_named 38 = .ok (.ireturn, 1) := by decide +kernel
theorem dX11_named_39 : decode cX11_named 39 = .ok (.aload_n 0, 1) := by decide +kernel
theorem dX11_named_40 : decode cX11_named 40 = .ok (.getfield 211, 3) := by decide +kernel
theorem dX11_named_43 : decode cX11_named 43 = .ok (.ldc2_w 255, 3) := by decide +kernel
theorem dX11_named_46 : decode cX11_named 46 = .ok (.lcmp, 1) := by decide +kernel
theorem dX11_named_47 : decode cX11_named 47 = .ok (.ifCond .ne 5, 3) := by decide +kernel
theorem dX11_named_50 : decode cX11_named 50 = .ok (.iconst 3, 1) := by decide +kernel
theorem dX11_named_51 : decode cX11_named 51 = .ok (.ireturn, 1) := by decide +kernel
theorem dX11_named_52 : decode cX11_named 52 = .ok (.aload_n 0, 1) := by decide +kernel
theorem dX11_named_53 : decode cX11_named 53 = .ok (.getfield 211, 3) := by decide +kernel
theorem dX11_named_56 : decode cX11_named 56 = .ok (.ldc2_w 257, 3) := by decide +kernel
theorem dX11_named_59 : decode cX11_named 59 = .ok (.lcmp, 1) := by decide +kernel
theorem dX11_named_60 : decode cX11_named 60 = .ok (.ifCond .ne 5, 3) := by decide +kernel
theorem dX11_named_63 : decode cX11_named 63 = .ok (.iconst 4, 1) := by decide +kernel
theorem dX11_named_64 : decode cX11_named 64 = .ok (.ireturn, 1) := by decide +kernel
theorem dX11_named_65 : decode cX11_named 65 = .ok (.aload_n 0, 1) := by decide +kernel
theorem dX11_named_66 : decode cX11_named 66 = .ok (.getfield 211, 3) := by decide +kernel
theorem dX11_named_69 : decode cX11_named 69 = .ok (.ldc2_w 259, 3) := by decide +kernel
theorem dX11_named_72 : decode cX11_named 72 = .ok (.lcmp, 1) := by decide +kernel
theorem dX11_named_73 : decode cX11_named 73 = .ok (.ifCond .ne 5, 3) := by decide +kernel
theorem dX11_named_76 : decode cX11_named 76 = .ok (.iconst 5, 1) := by decide +kernel
theorem dX11_named_77 : decode cX11_named 77 = .ok (.ireturn, 1) := by decide +kernel
theorem dX11_named_78 : decode cX11_named 78 = .ok (.aload_n 0, 1) := by decide +kernel
theorem dX11_named_79 : decode cX11_named 79 = .ok (.getfield 211, 3) := by decide +kernel
theorem dX11_named_82 : decode cX11_named 82 = .ok (.ldc2_w 261, 3) := by decide +kernel
theorem dX11_named_85 : decode cX11_named 85 = .ok (.lcmp, 1) := by decide +kernel
theorem dX11_named_86 : decode cX11_named 86 = .ok (.ifCond .ne 6, 3) := by decide +kernel
theorem dX11_named_89 : decode cX11_named 89 = .ok (.bipush 6, 2) := by decide +kernel
theorem dX11_named_91 : decode cX11_named 91 = .ok (.ireturn, 1) := by decide +kernel
theorem dX11_named_92 : decode cX11_named 92 = .ok (.aload_n 0, 1) := by decide +kernel
theorem dX11_named_93 : decode cX11_named 93 = .ok (.getfield 211, 3) := by decide +kernel
theorem dX11_named_96 : decode cX11_named 96 = .ok (.ldc2_w 263, 3) := by decide +kernel
theorem dX11_named_99 : decode cX11_named 99 = .ok (.lcmp, 1) := by decide +kernel
theorem dX11_named_100 : decode cX11_named 100 = .ok (.ifCond .ne 6, 3) := by decide +kernel
theorem dX11_named_103 : decode cX11_named 103 = .ok (.bipush 7, 2) := by decide +kernel
theorem dX11_named_105 : decode cX11_named 105 = .ok (.ireturn, 1) := by decide +kernel
theorem dX11_named_106 : decode cX11_named 106 = .ok (.aload_n 0, 1) := by decide +kernel
theorem dX11_named_107 : decode cX11_named 107 = .ok (.getfield 211, 3) := by decide +kernel
theorem dX11_named_110 : decode cX11_named 110 = .ok (.ldc2_w 265, 3) := by decide +kernel
theorem dX11_named_113 : decode cX11_named 113 = .ok (.lcmp, 1) := by decide +kernel
theorem dX11_named_114 : decode cX11_named 114 = .ok (.ifCond .ne 8, 3) := by decide +kernel
theorem dX11_named_117 : decode cX11_named 117 = .ok (.bipush 8, 2) := by decide +kernel
theorem dX11_named_119 : decode cX11_named 119 = .ok (.goto 4, 3) := by decide +kernel
theorem dX11_named_122 : decode cX11_named 122 = .ok (.iconst (-1), 1) := by decide +kernel
theorem dX11_named_123 : decode cX11_named 123 = .ok (.ireturn, 1) := by decide +kernel
theorem dX11_step_0 : decode cX11_step 0 = .ok (.aload_n 0, 1) := by decide +kernel
theorem dX11_step_1 : decode cX11_step 1 = .ok (.getfield 86, 3) := by decide +kernel
theorem dX11_step_4 : decode cX11_step 4 = .ok (.aload_n 0, 1) := by decide +kernel
theorem dX11_step_5 : decode cX11_step 5 = .ok (.getfield 267, 3) := by decide +kernel
theorem dX11_step_8 : decode cX11_step 8 = .ok (.iload_n 1, 1) := by decide +kernel
theorem dX11_step_9 : decode cX11_step 9 = .ok (.iastore, 1) := by decide +kernel
theorem dX11_step_10 : decode cX11_step 10 = .ok (.aload_n 0, 1) := by decide +kernel
theorem dX11_step_11 : decode cX11_step 11 = .ok (.getfield 89, 3) := by decide +kernel
theorem dX11_step_14 : decode cX11_step 14 = .ok (.aload_n 0, 1) := by decide +kernel
theorem dX11_step_15 : decode cX11_step 15 = .ok (.getfield 267, 3) := by decide +kernel
theorem dX11_step_18 : decode cX11_step 18 = .ok (.iload_n 2, 1) := by decide +kernel
theorem dX11_step_19 : decode cX11_step 19 = .ok (.iastore, 1) := by decide +kernel
theorem dX11_step_20 : decode cX11_step 20 = .ok (.aload_n 0, 1) := by decide +kernel
theorem dX11_step_21 : decode cX11_step 21 = .ok (.dup, 1) := by decide +kernel
theorem dX11_step_22 : decode cX11_step 22 = .ok (.getfield 267, 3) := by decide +kernel
theorem dX11_step_25 : decode cX11_step 25 = .ok (.iconst 1, 1) := by decide +kernel
theorem dX11_step_26 : decode cX11_step 26 = .ok (.iadd, 1) := by decide +kernel
theorem dX11_step_27 : decode cX11_step 27 = .ok (.putfield 267, 3) := by decide +kernel
theorem dX11_step_30 : decode cX11_step 30 = .ok (.return_, 1) := by decide +kernel
theorem dX11_hold_0 : decode cX11_hold 0 = .ok (.aload_n 0, 1) := by decide +kernel
theorem dX11_hold_1 : decode cX11_hold 1 = .ok (.getfield 107, 3) := by decide +kernel
theorem dX11_hold_4 : decode cX11_hold 4 = .ok (.aload_n 0, 1) := by decide +kernel
theorem dX11_hold_5 : decode cX11_hold 5 = .ok (.getfield 270, 3) := by decide +kernel
theorem dX11_hold_8 : decode cX11_hold 8 = .ok (.iload_n 1, 1) := by decide +kernel
theorem dX11_hold_9 : decode cX11_hold 9 = .ok (.iastore, 1) := by decide +kernel
theorem dX11_hold_10 : decode cX11_hold 10 = .ok (.aload_n 0, 1) := by decide +kernel
theorem dX11_hold_11 : decode cX11_hold 11 = .ok (.dup, 1) := by decide +kernel
theorem dX11_hold_12 : decode cX11_hold 12 = .ok (.getfield 270, 3) := by decide +kernel
theorem dX11_hold_15 : decode cX11_hold 15 = .ok (.iconst 1, 1) := by decide +kernel
theorem dX11_hold_16 : decode cX11_hold 16 = .ok (.iadd, 1) := by decide +kernel
theorem dX11_hold_17 : decode cX11_hold 17 = .ok (.putfield 270, 3) := by decide +kernel
theorem dX11_hold_20 : decode cX11_hold 20 = .ok (.iload_n 1, 1) := by decide +kernel
theorem dX11_hold_21 : decode cX11_hold 21 = .ok (.bipush 48, 2) := by decide +kernel
theorem dX11_hold_23 : decode cX11_hold 23 = .ok (.if_icmp .eq 9, 3) := by decide +kernel
theorem dX11_hold_26 : decode cX11_hold 26 = .ok (.iload_n 1, 1) := by decide +kernel
theorem dX11_hold_27 : decode cX11_hold 27 = .ok (.bipush 40, 2) := by decide +kernel
theorem dX11_hold_29 : decode cX11_hold 29 = .ok (.if_icmp .ne 13, 3) := by decide +kernel
theorem dX11_hold_32 : decode cX11_hold 32 = .ok (.aload_n 0, 1) := by decide +kernel
theorem dX11_hold_33 : decode cX11_hold 33 = .ok (.dup, 1) := by decide +kernel
theorem dX11_hold_34 : decode cX11_hold 34 = .ok (.getfield 273, 3) := by decide +kernel
theorem dX11_hold_37 : decode cX11_hold 37 = .ok (.iconst 1, 1) := by decide +kernel
theorem dX11_hold_38 : decode cX11_hold 38 = .ok (.iadd, 1) := by decide +kernel
theorem dX11_hold_39 : decode cX11_hold 39 = .ok (.putfield 273, 3) := by decide +kernel
theorem dX11_hold_42 : decode cX11_hold 42 = .ok (.return_, 1) := by decide +kernel
theorem dX11_pop_0 : decode cX11_pop 0 = .ok (.aload_n 0, 1) := by decide +kernel
theorem dX11_pop_1 : decode cX11_pop 1 = .ok (.dup, 1) := by decide +kernel
theorem dX11_pop_2 : decode cX11_pop 2 = .ok (.getfield 270, 3) := by decide +kernel
theorem dX11_pop_5 : decode cX11_pop 5 = .ok (.iconst 1, 1) := by decide +kernel
theorem dX11_pop_6 : decode cX11_pop 6 = .ok (.isub, 1) := by decide +kernel
theorem dX11_pop_7 : decode cX11_pop 7 = .ok (.putfield 270, 3) := by decide +kernel
theorem dX11_pop_10 : decode cX11_pop 10 = .ok (.aload_n 0, 1) := by decide +kernel
theorem dX11_pop_11 : decode cX11_pop 11 = .ok (.getfield 107, 3) := by decide +kernel
theorem dX11_pop_14 : decode cX11_pop 14 = .ok (.aload_n 0, 1) := by decide +kernel
theorem dX11_pop_15 : decode cX11_pop 15 = .ok (.getfield 270, 3) := by decide +kernel
theorem dX11_pop_18 : decode cX11_pop 18 = .ok (.iaload, 1) := by decide +kernel
theorem dX11_pop_19 : decode cX11_pop 19 = .ok (.bipush 40, 2) := by decide +kernel
theorem dX11_pop_21 : decode cX11_pop 21 = .ok (.if_icmp .ne 13, 3) := by decide +kernel
theorem dX11_pop_24 : decode cX11_pop 24 = .ok (.aload_n 0, 1) := by decide +kernel
theorem dX11_pop_25 : decode cX11_pop 25 = .ok (.dup, 1) := by decide +kernel
theorem dX11_pop_26 : decode cX11_pop 26 = .ok (.getfield 273, 3) := by decide +kernel
theorem dX11_pop_29 : decode cX11_pop 29 = .ok (.iconst 1, 1) := by decide +kernel
theorem dX11_pop_30 : decode cX11_pop 30 = .ok (.isub, 1) := by decide +kernel
theorem dX11_pop_31 : decode cX11_pop 31 = .ok (.putfield 273, 3) := by decide +kernel
theorem dX11_pop_34 : decode cX11_pop 34 = .ok (.aload_n 0, 1) := by decide +kernel
theorem dX11_pop_35 : decode cX11_pop 35 = .ok (.aload_n 0, 1) := by decide +kernel
theorem dX11_pop_36 : decode cX11_pop 36 = .ok (.getfield 107, 3) := by decide +kernel
theorem dX11_pop_39 : decode cX11_pop 39 = .ok (.aload_n 0, 1) := by decide +kernel
theorem dX11_pop_40 : decode cX11_pop 40 = .ok (.getfield 270, 3) := by decide +kernel
theorem dX11_pop_43 : decode cX11_pop 43 = .ok (.iaload, 1) := by decide +kernel
theorem dX11_pop_44 : decode cX11_pop 44 = .ok (.iconst 0, 1) := by decide +kernel
theorem dX11_pop_45 : decode cX11_pop 45 = .ok (.invokevirtual 276, 3) := by decide +kernel
theorem dX11_pop_48 : decode cX11_pop 48 = .ok (.return_, 1) := by decide +kernel
theorem dX11_settle_0 : decode cX11_settle 0 = .ok (.aload_n 0, 1) := by decide +kernel
theorem dX11_settle_1 : decode cX11_settle 1 = .ok (.getfield 270, 3) := by decide +kernel
theorem dX11_settle_4 : decode cX11_settle 4 = .ok (.ifCond .le 41, 3) := by decide +kernel
theorem dX11_settle_7 : decode cX11_settle 7 = .ok (.aload_n 0, 1) := by decide +kernel
theorem dX11_settle_8 : decode cX11_settle 8 = .ok (.getfield 107, 3) := by decide +kernel
theorem dX11_settle_11 : decode cX11_settle 11 = .ok (.aload_n 0, 1) := by decide +kernel
theorem dX11_settle_12 : decode cX11_settle 12 = .ok (.getfield 270, 3) := by decide +kernel
theorem dX11_settle_15 : decode cX11_settle 15 = .ok (.iconst 1, 1) := by decide +kernel
theorem dX11_settle_16 : decode cX11_settle 16 = .ok (.isub, 1) := by decide +kernel
theorem dX11_settle_17 : decode cX11_settle 17 = .ok (.iaload, 1) := by decide +kernel
theorem dX11_settle_18 : decode cX11_settle 18 = .ok (.bipush 48, 2) := by decide +kernel
theorem dX11_settle_20 : decode cX11_settle 20 = .ok (.if_icmp .eq 25, 3) := by decide +kernel
theorem dX11_settle_23 : decode cX11_settle 23 = .ok (.aload_n 0, 1) := by decide +kernel
theorem dX11_settle_24 : decode cX11_settle 24 = .ok (.getfield 107, 3) := by decide +kernel
theorem dX11_settle_27 : decode cX11_settle 27 = .ok (.aload_n 0, 1) := by decide +kernel
theorem dX11_settle_28 : decode cX11_settle 28 = .ok (.getfield 270, 3) := by decide +kernel
theorem dX11_settle_31 : decode cX11_settle 31 = .ok (.iconst 1, 1) := by decide +kernel
theorem dX11_settle_32 : decode cX11_settle 32 = .ok (.isub, 1) := by decide +kernel
theorem dX11_settle_33 : decode cX11_settle 33 = .ok (.iaload, 1) := by decide +kernel
theorem dX11_settle_34 : decode cX11_settle 34 = .ok (.iload_n 1, 1) := by decide +kernel
theorem dX11_settle_35 : decode cX11_settle 35 = .ok (.if_icmp .lt 10, 3) := by decide +kernel
theorem dX11_settle_38 : decode cX11_settle 38 = .ok (.aload_n 0, 1) := by decide +kernel
theorem dX11_settle_39 : decode cX11_settle 39 = .ok (.invokevirtual 280, 3) := by decide +kernel
theorem dX11_settle_42 : decode cX11_settle 42 = .ok (.goto (-42), 3) := by decide +kernel
theorem dX11_settle_45 : decode cX11_settle 45 = .ok (.return_, 1) := by decide +kernel
theorem dX11_isOpen_0 : decode cX11_isOpen 0 = .ok (.iconst 0, 1) := by decide +kernel
theorem dX11_isOpen_1 : decode cX11_isOpen 1 = .ok (.istore_n 1, 1) := by decide +kernel
theorem dX11_isOpen_2 : decode cX11_isOpen 2 = .ok (.iconst 0, 1) := by decide +kernel
theorem dX11_isOpen_3 : decode cX11_isOpen 3 = .ok (.istore_n 2, 1) := by decide +kernel
theorem dX11_isOpen_4 : decode cX11_isOpen 4 = .ok (.iload_n 2, 1) := by decide +kernel
theorem dX11_isOpen_5 : decode cX11_isOpen 5 = .ok (.aload_n 0, 1) := by decide +kernel
theorem dX11_isOpen_6 : decode cX11_isOpen 6 = .ok (.getfield 270, 3) := by decide +kernel
theorem dX11_isOpen_9 : decode cX11_isOpen 9 = .ok (.if_icmp .ge 30, 3) := by decide +kernel
theorem dX11_isOpen_12 : decode cX11_isOpen 12 = .ok (.iload_n 1, 1) := by decide +kernel
theorem dX11_isOpen_13 : decode cX11_isOpen 13 = .ok (.ifCond .ne 14, 3) := by decide +kernel
theorem dX11_isOpen_16 : decode cX11_isOpen 16 = .ok (.aload_n 0, 1) := by decide +kernel
theorem dX11_isOpen_17 : decode cX11_isOpen 17 = .ok (.getfield 107, 3) := by decide +kernel
theorem dX11_isOpen_20 : decode cX11_isOpen 20 = .ok (.iload_n 2, 1) := by decide +kernel
theorem dX11_isOpen_21 : decode cX11_isOpen 21 = .ok (.iaload, 1) := by decide +kernel
theorem dX11_isOpen_22 : decode cX11_isOpen 22 = .ok (.bipush 48, 2) := by decide +kernel
theorem dX11_isOpen_24 : decode cX11_isOpen 24 = .ok (.if_icmp .ne 7, 3) := by decide +kernel
theorem dX11_isOpen_27 : decode cX11_isOpen 27 = .ok (.iconst 1, 1) := by decide +kernel
theorem dX11_isOpen_28 : decode cX11_isOpen 28 = .ok (.goto 4, 3) := by decide +kernel
theorem dX11_isOpen_31 : decode cX11_isOpen 31 = .ok (.iconst 0, 1) := by decide +kernel
theorem dX11_isOpen_32 : decode cX11_isOpen 32 = .ok (.istore_n 1, 1) := by decide +kernel
theorem dX11_isOpen_33 : decode cX11_isOpen 33 = .ok (.iinc 2 1, 3) := by decide +kernel
theorem dX11_isOpen_36 : decode cX11_isOpen 36 = .ok (.goto (-32), 3) := by decide +kernel
theorem dX11_isOpen_39 : decode cX11_isOpen 39 = .ok (.iload_n 1, 1) := by decide +kernel
theorem dX11_isOpen_40 : decode cX11_isOpen 40 = .ok (.ireturn, 1) := by decide +kernel
theorem dX11_readE_0 : decode cX11_readE 0 = .ok (.aload_n 0, 1) := by decide +kernel
theorem dX11_readE_1 : decode cX11_readE 1 = .ok (.iconst 0, 1) := by decide +kernel
theorem dX11_readE_2 : decode cX11_readE 2 = .ok (.putfield 270, 3) := by decide +kernel
theorem dX11_readE_5 : decode cX11_readE 5 = .ok (.aload_n 0, 1) := by decide +kernel
theorem dX11_readE_6 : decode cX11_readE 6 = .ok (.iconst 0, 1) := by decide +kernel
theorem dX11_readE_7 : decode cX11_readE 7 = .ok (.putfield 273, 3) := by decide +kernel
theorem dX11_readE_10 : decode cX11_readE 10 = .ok (.iconst 0, 1) := by decide +kernel
theorem dX11_readE_11 : decode cX11_readE 11 = .ok (.istore_n 1, 1) := by decide +kernel
theorem dX11_readE_12 : decode cX11_readE 12 = .ok (.aload_n 0, 1) := by decide +kernel
theorem dX11_readE_13 : decode cX11_readE 13 = .ok (.getfield 230, 3) := by decide +kernel
theorem dX11_readE_16 : decode cX11_readE 16 = .ok (.ifCond .ne 47, 3) := by decide +kernel
theorem dX11_readE_19 : decode cX11_readE 19 = .ok (.iload_n 1, 1) := by decide +kernel
theorem dX11_readE_20 : decode cX11_readE 20 = .ok (.iconst 2, 1) := by decide +kernel
theorem dX11_readE_21 : decode cX11_readE 21 = .ok (.if_icmp .ne 20, 3) := by decide +kernel
theorem dX11_readE_24 : decode cX11_readE 24 = .ok (.aload_n 0, 1) := by decide +kernel
theorem dX11_readE_25 : decode cX11_readE 25 = .ok (.ldc2_w 235, 3) := by decide +kernel
theorem dX11_readE_28 : decode cX11_readE 28 = .ok (.invokevirtual 283, 3) := by decide +kernel
theorem dX11_readE_31 : decode cX11_readE 31 = .ok (.ifCond .eq 10, 3) := by decide +kernel
theorem dX11_readE_34 : decode cX11_readE 34 = .ok (.aload_n 0, 1) := by decide +kernel
theorem dX11_readE_35 : decode cX11_readE 35 = .ok (.invokevirtual 287, 3) := by decide +kernel
theorem dX11_readE_38 : decode cX11_readE 38 = .ok (.ifCond .eq 25, 3) := by decide +kernel
theorem dX11_readE_41 : decode cX11_readE 41 = .ok (.iload_n 1, 1) := by decide +kernel
theorem dX11_readE_42 : decode cX11_readE 42 = .ok (.iconst 2, 1) := by decide +kernel
theorem dX11_readE_43 : decode cX11_readE 43 = .ok (.if_icmp .ne 11, 3) := by decide +kernel
theorem dX11_readE_46 : decode cX11_readE 46 = .ok (.aload_n 0, 1) := by decide +kernel
theorem dX11_readE_47 : decode cX11_readE 47 = .ok (.invokevirtual 291, 3) := by decide +kernel
theorem dX11_readE_50 : decode cX11_readE 50 = .ok (.istore_n 1, 1) := by decide +kernel
theorem dX11_readE_51 : decode cX11_readE 51 = .ok (.goto (-39), 3) := by decide +kernel
theorem dX11_readE_54 : decode cX11_readE 54 = .ok (.aload_n 0, 1) := by decide +kernel
theorem dX11_readE_55 : decode cX11_readE 55 = .ok (.iload_n 1, 1) := by decide +kernel
theorem dX11_readE_56 : decode cX11_readE 56 = .ok (.invokevirtual 294, 3) := by decide +kernel
theorem dX11_readE_59 : decode cX11_readE 59 = .ok (.istore_n 1, 1) := by decide +kernel
theorem dX11_readE_60 : decode cX11_readE 60 = .ok (.goto (-48), 3) := by decide +kernel
theorem dX11_readE_63 : decode cX11_readE 63 = .ok (.aload_n 0, 1) := by decide +kernel
theorem dX11_readE_64 : decode cX11_readE 64 = .ok (.getfield 230, 3) := by decide +kernel
theorem dX11_readE_67 : decode cX11_readE 67 = .ok (.ifCond .ne 8, 3) := by decide +kernel
theorem dX11_readE_70 : decode cX11_readE 70 = .ok (.aload_n 0, 1) := by decide +kernel
theorem dX11_readE_71 : decode cX11_readE 71 = .ok (.iconst 0, 1) := by decide +kernel
theorem dX11_readE_72 : decode cX11_readE 72 = .ok (.invokevirtual 297, 3) := by decide +kernel
theorem dX11_readE_75 : decode cX11_readE 75 = .ok (.return_, 1) := by decide +kernel
theorem dX11_operand_0 : decode cX11_operand 0 = .ok (.aload_n 0, 1) := by decide +kernel
theorem dX11_operand_1 : decode cX11_operand 1 = .ok (.getfield 218, 3) := by decide +kernel
theorem dX11_operand_4 : decode cX11_operand 4 = .ok (.iconst 2, 1) := by decide +kernel
theorem dX11_operand_5 : decode cX11_operand 5 = .ok (.if_icmp .eq 18, 3) := by decide +kernel
theorem dX11_operand_8 : decode cX11_operand 8 = .ok (.aload_n 0, 1) := by decide +kernel
theorem dX11_operand_9 : decode cX11_operand 9 = .ok (.getfield 218, 3) := by decide +kernel
theorem dX11_operand_12 : decode cX11_operand 12 = .ok (.iconst 1, 1) := by decide +kernel
theorem dX11_operand_13 : decode cX11_operand 13 = .ok (.if_icmp .ne 14, 3) := by decide +kernel
theorem dX11_operand_16 : decode cX11_operand 16 = .ok (.aload_n 0, 1) := by decide +kernel
theorem dX11_operand_17 : decode cX11_operand 17 = .ok (.invokevirtual 300, 3) := by decide +kernel
theorem dX11_operand_20 : decode cX11_operand 20 = .ok (.ifCond .ne 7, 3) := by decide +kernel
theorem dX11_operand_23 : decode cX11_operand 23 = .ok (.iconst 1, 1) := by decide +kernel
theorem dX11_operand_24 : decode cX11_operand 24 = .ok (.goto 4, 3) := by decide +kernel
theorem dX11_operand_27 : decode cX11_operand 27 = .ok (.iconst 0, 1) := by decide +kernel
theorem dX11_operand_28 : decode cX11_operand 28 = .ok (.istore_n 2, 1) := by decide +kernel
theorem dX11_operand_29 : decode cX11_operand 29 = .ok (.iload_n 1, 1) := by decide +kernel
theorem dX11_operand_30 : decode cX11_operand 30 = .ok (.ifCond .ne 20, 3) := by decide +kernel
theorem dX11_operand_33 : decode cX11_operand 33 = .ok (.aload_n 0, 1) := by decide +kernel
theorem dX11_operand_34 : decode cX11_operand 34 = .ok (.getfield 273, 3) := by decide +kernel
theorem dX11_operand_37 : decode cX11_operand 37 = .ok (.bipush 8, 2) := by decide +kernel
theorem dX11_operand_39 : decode cX11_operand 39 = .ok (.if_icmp .lt 11, 3) := by decide +kernel
theorem dX11_operand_42 : decode cX11_operand 42 = .ok (.aload_n 0, 1) := by decide +kernel
theorem dX11_operand_43 : decode cX11_operand 43 = .ok (.iconst 2, 1) := by decide +kernel
theorem dX11_operand_44 : decode cX11_operand 44 = .ok (.invokevirtual 303, 3) := by decide +kernel
theorem dX11_operand_47 : decode cX11_operand 47 = .ok (.goto 151, 3) := by decide +kernel
theorem dX11_operand_50 : decode cX11_operand 50 = .ok (.iload_n 2, 1) := by decide +kernel
theorem dX11_operand_51 : decode cX11_operand 51 = .ok (.ifCond .eq 95, 3) := by decide +kernel
theorem dX11_operand_54 : decode cX11_operand 54 = .ok (.aload_n 0, 1) := by decide +kernel
theorem dX11_operand_55 : decode cX11_operand 55 = .ok (.getfield 218, 3) := by decide +kernel
theorem dX11_operand_58 : decode cX11_operand 58 = .ok (.iconst 1, 1) := by decide +kernel
theorem dX11_operand_59 : decode cX11_operand 59 = .ok (.if_icmp .ne 10, 3) := by decide +kernel
theorem dX11_operand_62 : decode cX11_operand 62 = .ok (.aload_n 0, 1) := by decide +kernel
theorem dX11_operand_63 : decode cX11_operand 63 = .ok (.invokevirtual 306, 3) := by decide +kernel
theorem dX11_operand_66 : decode cX11_operand 66 = .ok (.goto 4, 3) := by decide +kernel
theorem dX11_operand_69 : decode cX11_operand 69 = .ok (.iconst 0, 1) := by decide +kernel
theorem dX11_operand_70 : decode cX11_operand 70 = .ok (.istore_n 3, 1) := by decide +kernel
theorem dX11_operand_71 : decode cX11_operand 71 = .ok (.aload_n 0, 1) := by decide +kernel
theorem dX11_operand_72 : decode cX11_operand 72 = .ok (.getfield 309, 3) := by decide +kernel
theorem dX11_operand_75 : decode cX11_operand 75 = .ok (.bipush 80, 2) := by decide +kernel
theorem dX11_operand_77 : decode cX11_operand 77 = .ok (.if_icmp .ne 11, 3) := by decide +kernel
theorem dX11_operand_80 : decode cX11_operand 80 = .ok (.aload_n 0, 1) := by decide +kernel
theorem dX11_operand_81 : decode cX11_operand 81 = .ok (.iconst 2, 1) := by decide +kernel
theorem dX11_operand_82 : decode cX11_operand 82 = .ok (.invokevirtual 303, 3) := by decide +kernel
theorem dX11_operand_85 : decode cX11_operand 85 = .ok (.goto 12, 3) := by decide +kernel
theorem dX11_operand_88 : decode cX11_operand 88 = .ok (.iload_n 3, 1) := by decide +kernel
theorem dX11_operand_89 : decode cX11_operand 89 = .ok (.ifCond .ge 8, 3) := by decide +kernel
theorem dX11_operand_92 : decode cX11_operand 92 = .ok (.aload_n 0, 1) := by decide +kernel
theorem dX11_operand_93 : decode cX11_operand 93 = .ok (.iconst 3, 1) := by decide +kernel
theorem dX11_operand_94 : decode cX11_operand 94 = .ok (.invokevirtual 303, 3) := by decide +kernel
theorem dX11_operand_97 : decode cX11_operand 97 = .ok (.aload_n 0, 1) := by decide +kernel
theorem dX11_operand_98 : decode cX11_operand 98 = .ok (.getfield 230, 3) := by decide +kernel
theorem dX11_operand_101 : decode cX11_operand 101 = .ok (.ifCond .le 5, 3) := by decide +kernel
theorem dX11_operand_104 : decode cX11_operand 104 = .ok (.iload_n 1, 1) := by decide +kernel
theorem dX11_operand_105 : decode cX11_operand 105 = .ok (.ireturn, 1) := by decide +kernel
theorem dX11_operand_106 : decode cX11_operand 106 = .ok (.aload_n 0, 1) := by decide +kernel
theorem dX11_operand_107 : decode cX11_operand 107 = .ok (.aload_n 0, 1) := by decide +kernel
theorem dX11_operand_108 : decode cX11_operand 108 = .ok (.getfield 218, 3) := by decide +kernel
theorem dX11_operand_111 : decode cX11_operand 111 = .ok (.iconst 2, 1) := by decide +kernel
theorem dX11_operand_112 : decode cX11_operand 112 = .ok (.if_icmp .ne 7, 3) := by decide +kernel
theorem dX11_operand_115 : decode cX11_operand 115 = .ok (.iconst 0, 1) := by decide +kernel
theorem dX11_operand_116 : decode cX11_operand 116 = .ok (.goto 7, 3) := by decide +kernel
theorem dX11_operand_119 : decode cX11_operand 119 = .ok (.bipush 20, 2) := by decide +kernel
theorem dX11_operand_121 : decode cX11_operand 121 = .ok (.iload_n 3, 1) := by decide +kernel
theorem dX11_operand_122 : decode cX11_operand 122 = .ok (.iadd, 1) := by decide +kernel
theorem dX11_operand_123 : decode cX11_operand 123 = .ok (.aload_n 0, 1) := by decide +kernel
theorem dX11_operand_124 : decode cX11_operand 124 = .ok (.getfield 215, 3) := by decide +kernel
theorem dX11_operand_127 : decode cX11_operand 127 = .ok (.invokevirtual 276, 3) := by decide +kernel
theorem dX11_operand_130 : decode cX11_operand 130 = .ok (.aload_n 0, 1) := by decide +kernel
theorem dX11_operand_131 : decode cX11_operand 131 = .ok (.dup, 1) := by decide +kernel
theorem dX11_operand_132 : decode cX11_operand 132 = .ok (.getfield 309, 3) := by decide +kernel
theorem dX11_operand_135 : decode cX11_operand 135 = .ok (.iconst 1, 1) := by decide +kernel
theorem dX11_operand_136 : decode cX11_operand 136 = .ok (.iadd, 1) := by decide +kernel
theorem dX11_operand_137 : decode cX11_operand 137 = .ok (.putfield 309, 3) := by decide +kernel
theorem dX11_operand_140 : decode cX11_operand 140 = .ok (.aload_n 0, 1) := by decide +kernel
theorem dX11_operand_141 : decode cX11_operand 141 = .ok (.invokevirtual 312, 3) := by decide +kernel
theorem dX11_operand_144 : decode cX11_operand 144 = .ok (.iconst 2, 1) := by decide +kernel
theorem dX11_operand_145 : decode cX11_operand 145 = .ok (.ireturn, 1) := by decide +kernel
theorem dX11_operand_146 : decode cX11_operand 146 = .ok (.aload_n 0, 1) := by decide +kernel
theorem dX11_operand_147 : decode cX11_operand 147 = .ok (.getfield 218, 3) := by decide +kernel
theorem dX11_operand_150 : decode cX11_operand 150 = .ok (.bipush 40, 2) := by decide +kernel
theorem dX11_operand_152 : decode cX11_operand 152 = .ok (.if_icmp .ne 15, 3) := by decide +kernel
theorem dX11_operand_155 : decode cX11_operand 155 = .ok (.aload_n 0, 1) := by decide +kernel
theorem dX11_operand_156 : decode cX11_operand 156 = .ok (.bipush 48, 2) := by decide +kernel
theorem dX11_operand_158 : decode cX11_operand 158 = .ok (.invokevirtual 315, 3) := by decide +kernel
theorem dX11_operand_161 : decode cX11_operand 161 = .ok (.aload_n 0, 1) := by decide +kernel
theorem dX11_operand_162 : decode cX11_operand 162 = .ok (.invokevirtual 312, 3) := by decide +kernel
theorem dX11_operand_165 : decode cX11_operand 165 = .ok (.iconst 0, 1) := by decide +kernel
theorem dX11_operand_166 : decode cX11_operand 166 = .ok (.ireturn, 1) := by decide +kernel
theorem dX11_operand_167 : decode cX11_operand 167 = .ok (.iload_n 1, 1) := by decide +kernel
theorem dX11_operand_168 : decode cX11_operand 168 = .ok (.ifCond .ne 25, 3) := by decide +kernel
theorem dX11_operand_171 : decode cX11_operand 171 = .ok (.aload_n 0, 1) := by decide +kernel
theorem dX11_operand_172 : decode cX11_operand 172 = .ok (.ldc2_w 247, 3) := by decide +kernel
theorem dX11_operand_175 : decode cX11_operand 175 = .ok (.invokevirtual 283, 3) := by decide +kernel
theorem dX11_operand_178 : decode cX11_operand 178 = .ok (.ifCond .eq 15, 3) := by decide +kernel
theorem dX11_operand_181 : decode cX11_operand 181 = .ok (.aload_n 0, 1) := by decide +kernel
theorem dX11_operand_182 : decode cX11_operand 182 = .ok (.bipush 40, 2) := by decide +kernel
theorem dX11_operand_184 : decode cX11_operand 184 = .ok (.invokevirtual 315, 3) := by decide +kernel
theorem dX11_operand_187 : decode cX11_operand 187 = .ok (.aload_n 0, 1) := by decide +kernel
theorem dX11_operand_188 : decode cX11_operand 188 = .ok (.invokevirtual 312, 3) := by decide +kernel
theorem dX11_operand_191 : decode cX11_operand 191 = .ok (.iconst 0, 1) := by decide +kernel
theorem dX11_operand_192 : decode cX11_operand 192 = .ok (.ireturn, 1) := by decide +kernel
theorem dX11_operand_193 : decode cX11_operand 193 = .ok (.aload_n 0, 1) := by decide +kernel
theorem dX11_operand_194 : decode cX11_operand 194 = .ok (.iconst 2, 1) := by decide +kernel
theorem dX11_operand_195 : decode cX11_operand 195 = .ok (.invokevirtual 303, 3) := by decide +kernel
theorem dX11_operand_198 : decode cX11_operand 198 = .ok (.iload_n 1, 1) := by decide +kernel
theorem dX11_operand_199 : decode cX11_operand 199 = .ok (.ireturn, 1) := by decide +kernel
theorem dX11_sign_0 : decode cX11_sign 0 = .ok (.aload_n 0, 1) := by decide +kernel
theorem dX11_sign_1 : decode cX11_sign 1 = .ok (.getfield 218, 3) := by decide +kernel
theorem dX11_sign_4 : decode cX11_sign 4 = .ok (.bipush 43, 2) := by decide +kernel
theorem dX11_sign_6 : decode cX11_sign 6 = .ok (.if_icmp .eq 12, 3) := by decide +kernel
theorem dX11_sign_9 : decode cX11_sign 9 = .ok (.aload_n 0, 1) := by decide +kernel
theorem dX11_sign_10 : decode cX11_sign 10 = .ok (.getfield 218, 3) := by decide +kernel
theorem dX11_sign_13 : decode cX11_sign 13 = .ok (.bipush 45, 2) := by decide +kernel
theorem dX11_sign_15 : decode cX11_sign 15 = .ok (.if_icmp .ne 35, 3) := by decide +kernel
theorem dX11_sign_18 : decode cX11_sign 18 = .ok (.aload_n 0, 1) := by decide +kernel
theorem dX11_sign_19 : decode cX11_sign 19 = .ok (.bipush 46, 2) := by decide +kernel
theorem dX11_sign_21 : decode cX11_sign 21 = .ok (.invokevirtual 297, 3) := by decide +kernel
theorem dX11_sign_24 : decode cX11_sign 24 = .ok (.aload_n 0, 1) := by decide +kernel
theorem dX11_sign_25 : decode cX11_sign 25 = .ok (.aload_n 0, 1) := by decide +kernel
theorem dX11_sign_26 : decode cX11_sign 26 = .ok (.getfield 218, 3) := by decide +kernel
theorem dX11_sign_29 : decode cX11_sign 29 = .ok (.bipush 43, 2) := by decide +kernel
theorem dX11_sign_31 : decode cX11_sign 31 = .ok (.if_icmp .ne 8, 3) := by decide +kernel
theorem dX11_sign_34 : decode cX11_sign 34 = .ok (.bipush 46, 2) := by decide +kernel
theorem dX11_sign_36 : decode cX11_sign 36 = .ok (.goto 5, 3) := by decide +kernel
theorem dX11_sign_39 : decode cX11_sign 39 = .ok (.bipush 47, 2) := by decide +kernel
theorem dX11_sign_41 : decode cX11_sign 41 = .ok (.invokevirtual 315, 3) := by decide +kernel
theorem dX11_sign_44 : decode cX11_sign 44 = .ok (.aload_n 0, 1) := by decide +kernel
theorem dX11_sign_45 : decode cX11_sign 45 = .ok (.invokevirtual 312, 3) := by decide +kernel
theorem dX11_sign_48 : decode cX11_sign 48 = .ok (.iconst 1, 1) := by decide +kernel
theorem dX11_sign_49 : decode cX11_sign 49 = .ok (.ireturn, 1) := by decide +kernel
theorem dX11_sign_50 : decode cX11_sign 50 = .ok (.aload_n 0, 1) := by decide +kernel
theorem dX11_sign_51 : decode cX11_sign 51 = .ok (.getfield 218, 3) := by decide +kernel
theorem dX11_sign_54 : decode cX11_sign 54 = .ok (.bipush 61, 2) := by decide +kernel
theorem dX11_sign_56 : decode cX11_sign 56 = .ok (.if_icmp .eq 21, 3) := by decide +kernel
theorem dX11_sign_59 : decode cX11_sign 59 = .ok (.aload_n 0, 1) := by decide +kernel
theorem dX11_sign_60 : decode cX11_sign 60 = .ok (.getfield 218, 3) := by decide +kernel
theorem dX11_sign_63 : decode cX11_sign 63 = .ok (.bipush 60, 2) := by decide +kernel
theorem dX11_sign_65 : decode cX11_sign 65 = .ok (.if_icmp .eq 12, 3) := by decide +kernel
theorem dX11_sign_68 : decode cX11_sign 68 = .ok (.aload_n 0, 1) := by decide +kernel
theorem dX11_sign_69 : decode cX11_sign 69 = .ok (.getfield 218, 3) := by decide +kernel
theorem dX11_sign_72 : decode cX11_sign 72 = .ok (.bipush 62, 2) := by decide +kernel
theorem dX11_sign_74 : decode cX11_sign 74 = .ok (.if_icmp .ne 98, 3) := by decide +kernel
theorem dX11_sign_77 : decode cX11_sign 77 = .ok (.aload_n 0, 1) := by decide +kernel
theorem dX11_sign_78 : decode cX11_sign 78 = .ok (.bipush 46, 2) := by decide +kernel
theorem dX11_sign_80 : decode cX11_sign 80 = .ok (.invokevirtual 297, 3) := by decide +kernel
theorem dX11_sign_83 : decode cX11_sign 83 = .ok (.aload_n 0, 1) := by decide +kernel
theorem dX11_sign_84 : decode cX11_sign 84 = .ok (.getfield 270, 3) := by decide +kernel
theorem dX11_sign_87 : decode cX11_sign 87 = .ok (.ifCond .ne 7, 3) := by decide +kernel
theorem dX11_sign_90 : decode cX11_sign 90 = .ok (.iconst (-1), 1) := by decide +kernel
theorem dX11_sign_91 : decode cX11_sign 91 = .ok (.goto 14, 3) := by decide +kernel
theorem dX11_sign_94 : decode cX11_sign 94 = .ok (.aload_n 0, 1) := by decide +kernel
theorem dX11_sign_95 : decode cX11_sign 95 = .ok (.getfield 107, 3) := by decide +kernel
theorem dX11_sign_98 : decode cX11_sign 98 = .ok (.aload_n 0, 1) := by decide +kernel
theorem dX11_sign_99 : decode cX11_sign 99 = .ok (.getfield 270, 3) := by decide +kernel
theorem dX11_sign_102 : decode cX11_sign 102 = .ok (.iconst 1, 1) := by decide +kernel
theorem dX11_sign_103 : decode cX11_sign 103 = .ok (.isub, 1) := by decide +kernel
theorem dX11_sign_104 : decode cX11_sign 104 = .ok (.iaload, 1) := by decide +kernel
theorem dX11_sign_105 : decode cX11_sign 105 = .ok (.istore_n 1, 1) := by decide +kernel
theorem dX11_sign_106 : decode cX11_sign 106 = .ok (.iload_n 1, 1) := by decide +kernel
theorem dX11_sign_107 : decode cX11_sign 107 = .ok (.bipush 43, 2) := by decide +kernel
theorem dX11_sign_109 : decode cX11_sign 109 = .ok (.if_icmp .lt 14, 3) := by decide +kernel
theorem dX11_sign_112 : decode cX11_sign 112 = .ok (.iload_n 1, 1) := by decide +kernel
theorem dX11_sign_113 : decode cX11_sign 113 = .ok (.bipush 45, 2) := by decide +kernel
theorem dX11_sign_115 : decode cX11_sign 115 = .ok (.if_icmp .gt 8, 3) := by decide +kernel
theorem dX11_sign_118 : decode cX11_sign 118 = .ok (.aload_n 0, 1) := by decide +kernel
theorem dX11_sign_119 : decode cX11_sign 119 = .ok (.iconst 2, 1) := by decide +kernel
theorem dX11_sign_120 : decode cX11_sign 120 = .ok (.invokevirtual 303, 3) := by decide +kernel
theorem dX11_sign_123 : decode cX11_sign 123 = .ok (.aload_n 0, 1) := by decide +kernel
theorem dX11_sign_124 : decode cX11_sign 124 = .ok (.getfield 230, 3) := by decide +kernel
theorem dX11_sign_127 : decode cX11_sign 127 = .ok (.ifCond .le 5, 3) := by decide +kernel
theorem dX11_sign_130 : decode cX11_sign 130 = .ok (.iconst 2, 1) := by decide +kernel
theorem dX11_sign_131 : decode cX11_sign 131 = .ok (.ireturn, 1) := by decide +kernel
theorem dX11_sign_132 : decode cX11_sign 132 = .ok (.aload_n 0, 1) := by decide +kernel
theorem dX11_sign_133 : decode cX11_sign 133 = .ok (.aload_n 0, 1) := by decide +kernel
theorem dX11_sign_134 : decode cX11_sign 134 = .ok (.getfield 218, 3) := by decide +kernel
theorem dX11_sign_137 : decode cX11_sign 137 = .ok (.bipush 61, 2) := by decide +kernel
theorem dX11_sign_139 : decode cX11_sign 139 = .ok (.if_icmp .ne 8, 3) := by decide +kernel
theorem dX11_sign_142 : decode cX11_sign 142 = .ok (.bipush 43, 2) := by decide +kernel
theorem dX11_sign_144 : decode cX11_sign 144 = .ok (.goto 19, 3) := by decide +kernel
theorem dX11_sign_147 : decode cX11_sign 147 = .ok (.aload_n 0, 1) := by decide +kernel
theorem dX11_sign_148 : decode cX11_sign 148 = .ok (.getfield 218, 3) := by decide +kernel
theorem dX11_sign_151 : decode cX11_sign 151 = .ok (.bipush 60, 2) := by decide +kernel
theorem dX11_sign_153 : decode cX11_sign 153 = .ok (.if_icmp .ne 8, 3) := by decide +kernel
theorem dX11_sign_156 : decode cX11_sign 156 = .ok (.bipush 44, 2) := by decide +kernel
theorem dX11_sign_158 : decode cX11_sign 158 = .ok (.goto 5, 3) := by decide +kernel
theorem dX11_sign_161 : decode cX11_sign 161 = .ok (.bipush 45, 2) := by decide +kernel
theorem dX11_sign_163 : decode cX11_sign 163 = .ok (.invokevirtual 315, 3) := by decide +kernel
theorem dX11_sign_166 : decode cX11_sign 166 = .ok (.aload_n 0, 1) := by decide +kernel
theorem dX11_sign_167 : decode cX11_sign 167 = .ok (.invokevirtual 312, 3) := by decide +kernel
theorem dX11_sign_170 : decode cX11_sign 170 = .ok (.iconst 1, 1) := by decide +kernel
theorem dX11_sign_171 : decode cX11_sign 171 = .ok (.ireturn, 1) := by decide +kernel
theorem dX11_sign_172 : decode cX11_sign 172 = .ok (.aload_n 0, 1) := by decide +kernel
theorem dX11_sign_173 : decode cX11_sign 173 = .ok (.ldc2_w 245, 3) := by decide +kernel
theorem dX11_sign_176 : decode cX11_sign 176 = .ok (.invokevirtual 283, 3) := by decide +kernel
theorem dX11_sign_179 : decode cX11_sign 179 = .ok (.ifCond .ne 13, 3) := by decide +kernel
theorem dX11_sign_182 : decode cX11_sign 182 = .ok (.aload_n 0, 1) := by decide +kernel
theorem dX11_sign_183 : decode cX11_sign 183 = .ok (.ldc2_w 243, 3) := by decide +kernel
theorem dX11_sign_186 : decode cX11_sign 186 = .ok (.invokevirtual 283, 3) := by decide +kernel
theorem dX11_sign_189 : decode cX11_sign 189 = .ok (.ifCond .eq 37, 3) := by decide +kernel
theorem dX11_sign_192 : decode cX11_sign 192 = .ok (.aload_n 0, 1) := by decide +kernel
theorem dX11_sign_193 : decode cX11_sign 193 = .ok (.ldc2_w 245, 3) := by decide +kernel
theorem dX11_sign_196 : decode cX11_sign 196 = .ok (.invokevirtual 283, 3) := by decide +kernel
theorem dX11_sign_199 : decode cX11_sign 199 = .ok (.istore_n 1, 1) := by decide +kernel
theorem dX11_sign_200 : decode cX11_sign 200 = .ok (.aload_n 0, 1) := by decide +kernel
theorem dX11_sign_201 : decode cX11_sign 201 = .ok (.iload_n 1, 1) := by decide +kernel
theorem dX11_sign_202 : decode cX11_sign 202 = .ok (.invokevirtual 318, 3) := by decide +kernel
theorem dX11_sign_205 : decode cX11_sign 205 = .ok (.aload_n 0, 1) := by decide +kernel
theorem dX11_sign_206 : decode cX11_sign 206 = .ok (.iload_n 1, 1) := by decide +kernel
theorem dX11_sign_207 : decode cX11_sign 207 = .ok (.ifCond .eq 8, 3) := by decide +kernel
theorem dX11_sign_210 : decode cX11_sign 210 = .ok (.bipush 42, 2) := by decide +kernel
theorem dX11_sign_212 : decode cX11_sign 212 = .ok (.goto 5, 3) := by decide +kernel
theorem dX11_sign_215 : decode cX11_sign 215 = .ok (.bipush 41, 2) := by decide +kernel
theorem dX11_sign_217 : decode cX11_sign 217 = .ok (.invokevirtual 315, 3) := by decide +kernel
theorem dX11_sign_220 : decode cX11_sign 220 = .ok (.aload_n 0, 1) := by decide +kernel
theorem dX11_sign_221 : decode cX11_sign 221 = .ok (.invokevirtual 312, 3) := by decide +kernel
theorem dX11_sign_224 : decode cX11_sign 224 = .ok (.iconst 0, 1) := by decide +kernel
theorem dX11_sign_225 : decode cX11_sign 225 = .ok (.ireturn, 1) := by decide +kernel
theorem dX11_sign_226 : decode cX11_sign 226 = .ok (.aload_n 0, 1) := by decide +kernel
theorem dX11_sign_227 : decode cX11_sign 227 = .ok (.getfield 218, 3) := by decide +kernel
theorem dX11_sign_230 : decode cX11_sign 230 = .ok (.bipush 41, 2) := by decide +kernel
theorem dX11_sign_232 : decode cX11_sign 232 = .ok (.if_icmp .ne 41, 3) := by decide +kernel
theorem dX11_sign_235 : decode cX11_sign 235 = .ok (.aload_n 0, 1) := by decide +kernel
theorem dX11_sign_236 : decode cX11_sign 236 = .ok (.invokevirtual 287, 3) := by decide +kernel
theorem dX11_sign_239 : decode cX11_sign 239 = .ok (.ifCond .eq 34, 3) := by decide +kernel
theorem dX11_sign_242 : decode cX11_sign 242 = .ok (.aload_n 0, 1) := by decide +kernel
theorem dX11_sign_243 : decode cX11_sign 243 = .ok (.iconst 0, 1) := by decide +kernel
theorem dX11_sign_244 : decode cX11_sign 244 = .ok (.invokevirtual 297, 3) := by decide +kernel
theorem dX11_sign_247 : decode cX11_sign 247 = .ok (.aload_n 0, 1) := by decide +kernel
theorem dX11_sign_248 : decode cX11_sign 248 = .ok (.dup, 1) := by decide +kernel
theorem dX11_sign_249 : decode cX11_sign 249 = .ok (.getfield 270, 3) := by decide +kernel
theorem dX11_sign_252 : decode cX11_sign 252 = .ok (.iconst 1, 1) := by decide +kernel
theorem dX11_sign_253 : decode cX11_sign 253 = .ok (.isub, 1) := by decide +kernel
theorem dX11_sign_254 : decode cX11_sign 254 = .ok (.putfield 270, 3) := by decide +kernel
theorem dX11_sign_257 : decode cX11_sign 257 = .ok (.aload_n 0, 1) := by decide +kernel
theorem dX11_sign_258 : decode cX11_sign 258 = .ok (.dup, 1) := by decide +kernel
theorem dX11_sign_259 : decode cX11_sign 259 = .ok (.getfield 273, 3) := by decide +kernel
theorem dX11_sign_262 : decode cX11_sign 262 = .ok (.iconst 1, 1) := by decide +kernel
theorem dX11_sign_263 : decode cX11_sign 263 = .ok (.isub, 1) := by decide +kernel
theorem dX11_sign_264 : decode cX11_sign 264 = .ok (.putfield 273, 3) := by decide +kernel
theorem dX11_sign_267 : decode cX11_sign 267 = .ok (.aload_n 0, 1) := by decide +kernel
theorem dX11_sign_268 : decode cX11_sign 268 = .ok (.invokevirtual 312, 3) := by decide +kernel
theorem dX11_sign_271 : decode cX11_sign 271 = .ok (.iconst 2, 1) := by decide +kernel
theorem dX11_sign_272 : decode cX11_sign 272 = .ok (.ireturn, 1) := by decide +kernel
theorem dX11_sign_273 : decode cX11_sign 273 = .ok (.aload_n 0, 1) := by decide +kernel
theorem dX11_sign_274 : decode cX11_sign 274 = .ok (.iconst 2, 1) := by decide +kernel
theorem dX11_sign_275 : decode cX11_sign 275 = .ok (.invokevirtual 303, 3) := by decide +kernel
theorem dX11_sign_278 : decode cX11_sign 278 = .ok (.iconst 2, 1) := by decide +kernel
theorem dX11_sign_279 : decode cX11_sign 279 = .ok (.ireturn, 1) := by decide +kernel
theorem dX11_settleOnes_0 : decode cX11_settleOnes 0 = .ok (.iconst 1, 1) := by decide +kernel
theorem dX11_settleOnes_1 : decode cX11_settleOnes 1 = .ok (.istore_n 2, 1) := by decide +kernel
theorem dX11_settleOnes_2 : decode cX11_settleOnes 2 = .ok (.iload_n 2, 1) := by decide +kernel
theorem dX11_settleOnes_3 : decode cX11_settleOnes 3 = .ok (.ifCond .eq 60, 3) := by decide +kernel
theorem dX11_settleOnes_6 : decode cX11_settleOnes 6 = .ok (.aload_n 0, 1) := by decide +kernel
theorem dX11_settleOnes_7 : decode cX11_settleOnes 7 = .ok (.getfield 270, 3) := by decide +kernel
theorem dX11_settleOnes_10 : decode cX11_settleOnes 10 = .ok (.ifCond .ne 8, 3) := by decide +kernel
theorem dX11_settleOnes_13 : decode cX11_settleOnes 13 = .ok (.bipush 48, 2) := by decide +kernel
theorem dX11_settleOnes_15 : decode cX11_settleOnes 15 = .ok (.goto 14, 3) := by decide +kernel
theorem dX11_settleOnes_18 : decode cX11_settleOnes 18 = .ok (.aload_n 0, 1) := by decide +kernel
theorem dX11_settleOnes_19 : decode cX11_settleOnes 19 = .ok (.getfield 107, 3) := by decide +kernel
theorem dX11_settleOnes_22 : decode cX11_settleOnes 22 = .ok (.aload_n 0, 1) := by decide +kernel
theorem dX11_settleOnes_23 : decode cX11_settleOnes 23 = .ok (.getfield 270, 3) := by decide +kernel
theorem dX11_settleOnes_26 : decode cX11_settleOnes 26 = .ok (.iconst 1, 1) := by decide +kernel
theorem dX11_settleOnes_27 : decode cX11_settleOnes 27 = .ok (.isub, 1) := by decide +kernel
theorem dX11_settleOnes_28 : decode cX11_settleOnes 28 = .ok (.iaload, 1) := by decide +kernel
theorem dX11_settleOnes_29 : decode cX11_settleOnes 29 = .ok (.istore_n 3, 1) := by decide +kernel
theorem dX11_settleOnes_30 : decode cX11_settleOnes 30 = .ok (.iload_n 3, 1) := by decide +kernel
theorem dX11_settleOnes_31 : decode cX11_settleOnes 31 = .ok (.bipush 48, 2) := by decide +kernel
theorem dX11_settleOnes_33 : decode cX11_settleOnes 33 = .ok (.if_icmp .eq 17, 3) := by decide +kernel
theorem dX11_settleOnes_36 : decode cX11_settleOnes 36 = .ok (.iload_n 1, 1) := by decide +kernel
theorem dX11_settleOnes_37 : decode cX11_settleOnes 37 = .ok (.ifCond .eq 9, 3) := by decide +kernel
theorem dX11_settleOnes_40 : decode cX11_settleOnes 40 = .ok (.iload_n 3, 1) := by decide +kernel
theorem dX11_settleOnes_41 : decode cX11_settleOnes 41 = .ok (.bipush 41, 2) := by decide +kernel
theorem dX11_settleOnes_43 : decode cX11_settleOnes 43 = .ok (.if_icmp .eq 7, 3) := by decide +kernel
theorem dX11_settleOnes_46 : decode cX11_settleOnes 46 = .ok (.iconst 1, 1) := by decide +kernel
theorem dX11_settleOnes_47 : decode cX11_settleOnes 47 = .ok (.goto 4, 3) := by decide +kernel
theorem dX11_settleOnes_50 : decode cX11_settleOnes 50 = .ok (.iconst 0, 1) := by decide +kernel
theorem dX11_settleOnes_51 : decode cX11_settleOnes 51 = .ok (.istore_n 2, 1) := by decide +kernel
theorem dX11_settleOnes_52 : decode cX11_settleOnes 52 = .ok (.iload_n 2, 1) := by decide +kernel
theorem dX11_settleOnes_53 : decode cX11_settleOnes 53 = .ok (.ifCond .eq 7, 3) := by decide +kernel
theorem dX11_settleOnes_56 : decode cX11_settleOnes 56 = .ok (.aload_n 0, 1) := by decide +kernel
theorem dX11_settleOnes_57 : decode cX11_settleOnes 57 = .ok (.invokevirtual 280, 3) := by decide +kernel
theorem dX11_settleOnes_60 : decode cX11_settleOnes 60 = .ok (.goto (-58), 3) := by decide +kernel
theorem dX11_settleOnes_63 : decode cX11_settleOnes 63 = .ok (.return_, 1) := by decide +kernel
theorem dX11_readAct_0 : decode cX11_readAct 0 = .ok (.aload_n 0, 1) := by decide +kernel
theorem dX11_readAct_1 : decode cX11_readAct 1 = .ok (.ldc2_w 241, 3) := by decide +kernel
theorem dX11_readAct_4 : decode cX11_readAct 4 = .ok (.invokevirtual 283, 3) := by decide +kernel
theorem dX11_readAct_7 : decode cX11_readAct 7 = .ok (.istore_n 1, 1) := by decide +kernel
theorem dX11_readAct_8 : decode cX11_readAct 8 = .ok (.iload_n 1, 1) := by decide +kernel
theorem dX11_readAct_9 : decode cX11_readAct 9 = .ok (.ifCond .ne 28, 3) := by decide +kernel
theorem dX11_readAct_12 : decode cX11_readAct 12 = .ok (.aload_n 0, 1) := by decide +kernel
theorem dX11_readAct_13 : decode cX11_readAct 13 = .ok (.ldc2_w 237, 3) := by decide +kernel
theorem dX11_readAct_16 : decode cX11_readAct 16 = .ok (.invokevirtual 283, 3) := by decide +kernel
theorem dX11_readAct_19 : decode cX11_readAct 19 = .ok (.ifCond .ne 18, 3) := by decide +kernel
theorem dX11_readAct_22 : decode cX11_readAct 22 = .ok (.aload_n 0, 1) := by decide +kernel
theorem dX11_readAct_23 : decode cX11_readAct 23 = .ok (.ldc2_w 239, 3) := by decide +kernel
theorem dX11_readAct_26 : decode cX11_readAct 26 = .ok (.invokevirtual 283, 3) := by decide +kernel
theorem dX11_readAct_29 : decode cX11_readAct 29 = .ok (.ifCond .ne 8, 3) := by decide +kernel
theorem dX11_readAct_32 : decode cX11_readAct 32 = .ok (.aload_n 0, 1) := by decide +kernel
theorem dX11_readAct_33 : decode cX11_readAct 33 = .ok (.iconst 2, 1) := by decide +kernel
theorem dX11_readAct_34 : decode cX11_readAct 34 = .ok (.invokevirtual 303, 3) := by decide +kernel
theorem dX11_readAct_37 : decode cX11_readAct 37 = .ok (.aload_n 0, 1) := by decide +kernel
theorem dX11_readAct_38 : decode cX11_readAct 38 = .ok (.getfield 230, 3) := by decide +kernel
theorem dX11_readAct_41 : decode cX11_readAct 41 = .ok (.ifCond .le 4, 3) := by decide +kernel
theorem dX11_readAct_44 : decode cX11_readAct 44 = .ok (.return_, 1) := by decide +kernel
theorem dX11_readAct_45 : decode cX11_readAct 45 = .ok (.aload_n 0, 1) := by decide +kernel
theorem dX11_readAct_46 : decode cX11_readAct 46 = .ok (.getfield 95, 3) := by decide +kernel
theorem dX11_readAct_49 : decode cX11_readAct 49 = .ok (.aload_n 0, 1) := by decide +kernel
theorem dX11_readAct_50 : decode cX11_readAct 50 = .ok (.getfield 322, 3) := by decide +kernel
theorem dX11_readAct_53 : decode cX11_readAct 53 = .ok (.iload_n 1, 1) := by decide +kernel
theorem dX11_readAct_54 : decode cX11_readAct 54 = .ok (.ifCond .eq 7, 3) := by decide +kernel
theorem dX11_readAct_57 : decode cX11_readAct 57 = .ok (.iconst 2, 1) := by decide +kernel
theorem dX11_readAct_58 : decode cX11_readAct 58 = .ok (.goto 18, 3) := by decide +kernel
theorem dX11_readAct_61 : decode cX11_readAct 61 = .ok (.aload_n 0, 1) := by decide +kernel
theorem dX11_readAct_62 : decode cX11_readAct 62 = .ok (.ldc2_w 239, 3) := by decide +kernel
theorem dX11_readAct_65 : decode cX11_readAct 65 = .ok (.invokevirtual 283, 3) := by decide +kernel
theorem dX11_readAct_68 : decode cX11_readAct 68 = .ok (.ifCond .eq 7, 3) := by decide +kernel
theorem dX11_readAct_71 : decode cX11_readAct 71 = .ok (.iconst 1, 1) := by decide +kernel
theorem dX11_readAct_72 : decode cX11_readAct 72 = .ok (.goto 4, 3) := by decide +kernel
theorem dX11_readAct_75 : decode cX11_readAct 75 = .ok (.iconst 0, 1) := by decide +kernel
theorem dX11_readAct_76 : decode cX11_readAct 76 = .ok (.iastore, 1) := by decide +kernel
theorem dX11_readAct_77 : decode cX11_readAct 77 = .ok (.aload_n 0, 1) := by decide +kernel
theorem dX11_readAct_78 : decode cX11_readAct 78 = .ok (.invokevirtual 312, 3) := by decide +kernel
theorem dX11_readAct_81 : decode cX11_readAct 81 = .ok (.iload_n 1, 1) := by decide +kernel
theorem dX11_readAct_82 : decode cX11_readAct 82 = .ok (.ifCond .eq 41, 3) := by decide +kernel
theorem dX11_readAct_85 : decode cX11_readAct 85 = .ok (.aload_n 0, 1) := by decide +kernel
theorem dX11_readAct_86 : decode cX11_readAct 86 = .ok (.getfield 218, 3) := by decide +kernel
theorem dX11_readAct_89 : decode cX11_readAct 89 = .ok (.iconst 2, 1) := by decide +kernel
theorem dX11_readAct_90 : decode cX11_readAct 90 = .ok (.if_icmp .eq 8, 3) := by decide +kernel
theorem dX11_readAct_93 : decode cX11_readAct 93 = .ok (.aload_n 0, 1) := by decide +kernel
theorem dX11_readAct_94 : decode cX11_readAct 94 = .ok (.iconst 2, 1) := by decide +kernel
theorem dX11_readAct_95 : decode cX11_readAct 95 = .ok (.invokevirtual 303, 3) := by decide +kernel
theorem dX11_readAct_98 : decode cX11_readAct 98 = .ok (.aload_n 0, 1) := by decide +kernel
theorem dX11_readAct_99 : decode cX11_readAct 99 = .ok (.getfield 230, 3) := by decide +kernel
theorem dX11_readAct_102 : decode cX11_readAct 102 = .ok (.ifCond .le 4, 3) := by decide +kernel
theorem dX11_readAct_105 : decode cX11_readAct 105 = .ok (.return_, 1) := by decide +kernel
theorem dX11_readAct_106 : decode cX11_readAct 106 = .ok (.aload_n 0, 1) := by decide +kernel
theorem dX11_readAct_107 : decode cX11_readAct 107 = .ok (.getfield 98, 3) := by decide +kernel
theorem dX11_readAct_110 : decode cX11_readAct 110 = .ok (.aload_n 0, 1) := by decide +kernel
theorem dX11_readAct_111 : decode cX11_readAct 111 = .ok (.getfield 322, 3) := by decide +kernel
theorem dX11_readAct_114 : decode cX11_readAct 114 = .ok (.aload_n 0, 1) := by decide +kernel
theorem dX11_readAct_115 : decode cX11_readAct 115 = .ok (.getfield 215, 3) := by decide +kernel
theorem dX11_readAct_118 : decode cX11_readAct 118 = .ok (.iastore, 1) := by decide +kernel
theorem dX11_readAct_119 : decode cX11_readAct 119 = .ok (.aload_n 0, 1) := by decide +kernel
theorem dX11_readAct_120 : decode cX11_readAct 120 = .ok (.invokevirtual 312, 3) := by decide +kernel
theorem dX11_readAct_123 : decode cX11_readAct 123 = .ok (.aload_n 0, 1) := by decide +kernel
theorem dX11_readAct_124 : decode cX11_readAct 124 = .ok (.getfield 218, 3) := by decide +kernel
theorem dX11_readAct_127 : decode cX11_readAct 127 = .ok (.bipush 59, 2) := by decide +kernel
theorem dX11_readAct_129 : decode cX11_readAct 129 = .ok (.if_icmp .eq 8, 3) := by decide +kernel
theorem dX11_readAct_132 : decode cX11_readAct 132 = .ok (.aload_n 0, 1) := by decide +kernel
theorem dX11_readAct_133 : decode cX11_readAct 133 = .ok (.iconst 2, 1) := by decide +kernel
theorem dX11_readAct_134 : decode cX11_readAct 134 = .ok (.invokevirtual 303, 3) := by decide +kernel
theorem dX11_readAct_137 : decode cX11_readAct 137 = .ok (.aload_n 0, 1) := by decide +kernel
theorem dX11_readAct_138 : decode cX11_readAct 138 = .ok (.getfield 230, 3) := by decide +kernel
theorem dX11_readAct_141 : decode cX11_readAct 141 = .ok (.ifCond .ne 7, 3) := by decide +kernel
theorem dX11_readAct_144 : decode cX11_readAct 144 = .ok (.aload_n 0, 1) := by decide +kernel
theorem dX11_readAct_145 : decode cX11_readAct 145 = .ok (.invokevirtual 312, 3) := by decide +kernel
theorem dX11_readAct_148 : decode cX11_readAct 148 = .ok (.return_, 1) := by decide +kernel
theorem dX11_orders_0 : decode cX11_orders 0 = .ok (.aload_n 0, 1) := by decide +kernel
theorem dX11_orders_1 : decode cX11_orders 1 = .ok (.iload_n 1, 1) := by decide +kernel
theorem dX11_orders_2 : decode cX11_orders 2 = .ok (.invokevirtual 189, 3) := by decide +kernel
theorem dX11_orders_5 : decode cX11_orders 5 = .ok (.ifCond .ne 6, 3) := by decide +kernel
theorem dX11_orders_8 : decode cX11_orders 8 = .ok (.bipush (-2), 2) := by decide +kernel
theorem dX11_orders_10 : decode cX11_orders 10 = .ok (.ireturn, 1) := by decide +kernel
theorem dX11_orders_11 : decode cX11_orders 11 = .ok (.aload_n 0, 1) := by decide +kernel
theorem dX11_orders_12 : decode cX11_orders 12 = .ok (.aload_n 0, 1) := by decide +kernel
theorem dX11_orders_13 : decode cX11_orders 13 = .ok (.getfield 192, 3) := by decide +kernel
theorem dX11_orders_16 : decode cX11_orders 16 = .ok (.putfield 202, 3) := by decide +kernel
theorem dX11_orders_19 : decode cX11_orders 19 = .ok (.aload_n 0, 1) := by decide +kernel
theorem dX11_orders_20 : decode cX11_orders 20 = .ok (.iconst 0, 1) := by decide +kernel
theorem dX11_orders_21 : decode cX11_orders 21 = .ok (.putfield 192, 3) := by decide +kernel
theorem dX11_orders_24 : decode cX11_orders 24 = .ok (.aload_n 0, 1) := by decide +kernel
theorem dX11_orders_25 : decode cX11_orders 25 = .ok (.iconst 0, 1) := by decide +kernel
theorem dX11_orders_26 : decode cX11_orders 26 = .ok (.putfield 199, 3) := by decide +kernel
theorem dX11_orders_29 : decode cX11_orders 29 = .ok (.aload_n 0, 1) := by decide +kernel
theorem dX11_orders_30 : decode cX11_orders 30 = .ok (.iconst 0, 1) := by decide +kernel
theorem dX11_orders_31 : decode cX11_orders 31 = .ok (.putfield 230, 3) := by decide +kernel
theorem dX11_orders_34 : decode cX11_orders 34 = .ok (.aload_n 0, 1) := by decide +kernel
theorem dX11_orders_35 : decode cX11_orders 35 = .ok (.iconst (-1), 1) := by decide +kernel
theorem dX11_orders_36 : decode cX11_orders 36 = .ok (.putfield 104, 3) := by decide +kernel
theorem dX11_orders_39 : decode cX11_orders 39 = .ok (.aload_n 0, 1) := by decide +kernel
theorem dX11_orders_40 : decode cX11_orders 40 = .ok (.iconst 0, 1) := by decide +kernel
theorem dX11_orders_41 : decode cX11_orders 41 = .ok (.putfield 322, 3) := by decide +kernel
theorem dX11_orders_44 : decode cX11_orders 44 = .ok (.aload_n 0, 1) := by decide +kernel
theorem dX11_orders_45 : decode cX11_orders 45 = .ok (.iconst 0, 1) := by decide +kernel
theorem dX11_orders_46 : decode cX11_orders 46 = .ok (.putfield 267, 3) := by decide +kernel
theorem dX11_orders_49 : decode cX11_orders 49 = .ok (.aload_n 0, 1) := by decide +kernel
theorem dX11_orders_50 : decode cX11_orders 50 = .ok (.iconst 0, 1) := by decide +kernel
theorem dX11_orders_51 : decode cX11_orders 51 = .ok (.putfield 309, 3) := by decide +kernel
theorem dX11_orders_54 : decode cX11_orders 54 = .ok (.aload_n 0, 1) := by decide +kernel
theorem dX11_orders_55 : decode cX11_orders 55 = .ok (.invokevirtual 312, 3) := by decide +kernel
theorem dX11_orders_58 : decode cX11_orders 58 = .ok (.aload_n 0, 1) := by decide +kernel
theorem dX11_orders_59 : decode cX11_orders 59 = .ok (.getfield 230, 3) := by decide +kernel
theorem dX11_orders_62 : decode cX11_orders 62 = .ok (.ifCond .ne 103, 3) := by decide +kernel
theorem dX11_orders_65 : decode cX11_orders 65 = .ok (.aload_n 0, 1) := by decide +kernel
theorem dX11_orders_66 : decode cX11_orders 66 = .ok (.getfield 218, 3) := by decide +kernel
theorem dX11_orders_69 : decode cX11_orders 69 = .ok (.ifCond .eq 96, 3) := by decide +kernel
theorem dX11_orders_72 : decode cX11_orders 72 = .ok (.aload_n 0, 1) := by decide +kernel
theorem dX11_orders_73 : decode cX11_orders 73 = .ok (.ldc2_w 233, 3) := by decide +kernel
theorem dX11_orders_76 : decode cX11_orders 76 = .ok (.invokevirtual 283, 3) := by decide +kernel
theorem dX11_orders_79 : decode cX11_orders 79 = .ok (.ifCond .eq 12, 3) := by decide +kernel
theorem dX11_orders_82 : decode cX11_orders 82 = .ok (.aload_n 0, 1) := by decide +kernel
theorem dX11_orders_83 : decode cX11_orders 83 = .ok (.getfield 322, 3) := by decide +kernel
theorem dX11_orders_86 : decode cX11_orders 86 = .ok (.bipush 8, 2) := by decide +kernel
theorem dX11_orders_88 : decode cX11_orders 88 = .ok (.if_icmp .ne 8, 3) := by decide +kernel
theorem dX11_orders_91 : decode cX11_orders 91 = .ok (.aload_n 0, 1) := by decide +kernel
theorem dX11_orders_92 : decode cX11_orders 92 = .ok (.iconst 2, 1) := by decide +kernel
theorem dX11_orders_93 : decode cX11_orders 93 = .ok (.invokevirtual 303, 3) := by decide +kernel
theorem dX11_orders_96 : decode cX11_orders 96 = .ok (.aload_n 0, 1) := by decide +kernel
theorem dX11_orders_97 : decode cX11_orders 97 = .ok (.getfield 230, 3) := by decide +kernel
theorem dX11_orders_100 : decode cX11_orders 100 = .ok (.ifCond .le 5, 3) := by decide +kernel
theorem dX11_orders_103 : decode cX11_orders 103 = .ok (.iconst (-1), 1) := by decide +kernel
theorem dX11_orders_104 : decode cX11_orders 104 = .ok (.ireturn, 1) := by decide +kernel
theorem dX11_orders_105 : decode cX11_orders 105 = .ok (.aload_n 0, 1) := by decide +kernel
theorem dX11_orders_106 : decode cX11_orders 106 = .ok (.getfield 92, 3) := by decide +kernel
theorem dX11_orders_109 : decode cX11_orders 109 = .ok (.aload_n 0, 1) := by decide +kernel
theorem dX11_orders_110 : decode cX11_orders 110 = .ok (.getfield 322, 3) := by decide +kernel
theorem dX11_orders_113 : decode cX11_orders 113 = .ok (.aload_n 0, 1) := by decide +kernel
theorem dX11_orders_114 : decode cX11_orders 114 = .ok (.getfield 267, 3) := by decide +kernel
theorem dX11_orders_117 : decode cX11_orders 117 = .ok (.iastore, 1) := by decide +kernel
theorem dX11_orders_118 : decode cX11_orders 118 = .ok (.aload_n 0, 1) := by decide +kernel
theorem dX11_orders_119 : decode cX11_orders 119 = .ok (.invokevirtual 312, 3) := by decide +kernel
theorem dX11_orders_122 : decode cX11_orders 122 = .ok (.aload_n 0, 1) := by decide +kernel
theorem dX11_orders_123 : decode cX11_orders 123 = .ok (.invokevirtual 325, 3) := by decide +kernel
theorem dX11_orders_126 : decode cX11_orders 126 = .ok (.aload_n 0, 1) := by decide +kernel
theorem dX11_orders_127 : decode cX11_orders 127 = .ok (.getfield 230, 3) := by decide +kernel
theorem dX11_orders_130 : decode cX11_orders 130 = .ok (.ifCond .le 5, 3) := by decide +kernel
theorem dX11_orders_133 : decode cX11_orders 133 = .ok (.iconst (-1), 1) := by decide +kernel
theorem dX11_orders_134 : decode cX11_orders 134 = .ok (.ireturn, 1) := by decide +kernel
theorem dX11_orders_135 : decode cX11_orders 135 = .ok (.aload_n 0, 1) := by decide +kernel
theorem dX11_orders_136 : decode cX11_orders 136 = .ok (.invokevirtual 312, 3) := by decide +kernel
theorem dX11_orders_139 : decode cX11_orders 139 = .ok (.aload_n 0, 1) := by decide +kernel
theorem dX11_orders_140 : decode cX11_orders 140 = .ok (.invokevirtual 328, 3) := by decide +kernel
theorem dX11_orders_143 : decode cX11_orders 143 = .ok (.aload_n 0, 1) := by decide +kernel
theorem dX11_orders_144 : decode cX11_orders 144 = .ok (.getfield 230, 3) := by decide +kernel
theorem dX11_orders_147 : decode cX11_orders 147 = .ok (.ifCond .le 5, 3) := by decide +kernel
theorem dX11_orders_150 : decode cX11_orders 150 = .ok (.iconst (-1), 1) := by decide +kernel
theorem dX11_orders_151 : decode cX11_orders 151 = .ok (.ireturn, 1) := by decide +kernel
theorem dX11_orders_152 : decode cX11_orders 152 = .ok (.aload_n 0, 1) := by decide +kernel
theorem dX11_orders_153 : decode cX11_orders 153 = .ok (.dup, 1) := by decide +kernel
theorem dX11_orders_154 : decode cX11_orders 154 = .ok (.getfield 322, 3) := by decide +kernel
theorem dX11_orders_157 : decode cX11_orders 157 = .ok (.iconst 1, 1) := by decide +kernel
theorem dX11_orders_158 : decode cX11_orders 158 = .ok (.iadd, 1) := by decide +kernel
theorem dX11_orders_159 : decode cX11_orders 159 = .ok (.putfield 322, 3) := by decide +kernel
theorem dX11_orders_162 : decode cX11_orders 162 = .ok (.goto (-104), 3) := by decide +kernel
theorem dX11_orders_165 : decode cX11_orders 165 = .ok (.aload_n 0, 1) := by decide +kernel
theorem dX11_orders_166 : decode cX11_orders 166 = .ok (.getfield 230, 3) := by decide +kernel
theorem dX11_orders_169 : decode cX11_orders 169 = .ok (.ifCond .le 5, 3) := by decide +kernel
theorem dX11_orders_172 : decode cX11_orders 172 = .ok (.iconst (-1), 1) := by decide +kernel
theorem dX11_orders_173 : decode cX11_orders 173 = .ok (.ireturn, 1) := by decide +kernel
theorem dX11_orders_174 : decode cX11_orders 174 = .ok (.aload_n 0, 1) := by decide +kernel
theorem dX11_orders_175 : decode cX11_orders 175 = .ok (.getfield 92, 3) := by decide +kernel
theorem dX11_orders_178 : decode cX11_orders 178 = .ok (.aload_n 0, 1) := by decide +kernel
theorem dX11_orders_179 : decode cX11_orders 179 = .ok (.getfield 322, 3) := by decide +kernel
theorem dX11_orders_182 : decode cX11_orders 182 = .ok (.aload_n 0, 1) := by decide +kernel
theorem dX11_orders_183 : decode cX11_orders 183 = .ok (.getfield 267, 3) := by decide +kernel
theorem dX11_orders_186 : decode cX11_orders 186 = .ok (.iastore, 1) := by decide +kernel
theorem dX11_orders_187 : decode cX11_orders 187 = .ok (.iconst 0, 1) := by decide +kernel
theorem dX11_orders_188 : decode cX11_orders 188 = .ok (.istore_n 2, 1) := by decide +kernel
theorem dX11_orders_189 : decode cX11_orders 189 = .ok (.iload_n 2, 1) := by decide +kernel
theorem dX11_orders_190 : decode cX11_orders 190 = .ok (.aload_n 0, 1) := by decide +kernel
theorem dX11_orders_191 : decode cX11_orders 191 = .ok (.getfield 267, 3) := by decide +kernel
theorem dX11_orders_194 : decode cX11_orders 194 = .ok (.if_icmp .ge 45, 3) := by decide +kernel
theorem dX11_orders_197 : decode cX11_orders 197 = .ok (.aload_n 0, 1) := by decide +kernel
theorem dX11_orders_198 : decode cX11_orders 198 = .ok (.getfield 68, 3) := by decide +kernel
theorem dX11_orders_201 : decode cX11_orders 201 = .ok (.sipush 500, 3) := by decide +kernel
theorem dX11_orders_204 : decode cX11_orders 204 = .ok (.iload_n 1, 1) := by decide +kernel
theorem dX11_orders_205 : decode cX11_orders 205 = .ok (.imul, 1) := by decide +kernel
theorem dX11_orders_206 : decode cX11_orders 206 = .ok (.iload_n 2, 1) := by decide +kernel
theorem dX11_orders_207 : decode cX11_orders 207 = .ok (.iadd, 1) := by decide +kernel
theorem dX11_orders_208 : decode cX11_orders 208 = .ok (.aload_n 0, 1) := by decide +kernel
theorem dX11_orders_209 : decode cX11_orders 209 = .ok (.getfield 86, 3) := by decide +kernel
theorem dX11_orders_212 : decode cX11_orders 212 = .ok (.iload_n 2, 1) := by decide +kernel
theorem dX11_orders_213 : decode cX11_orders 213 = .ok (.iaload, 1) := by decide +kernel
theorem dX11_orders_214 : decode cX11_orders 214 = .ok (.iastore, 1) := by decide +kernel
theorem dX11_orders_215 : decode cX11_orders 215 = .ok (.aload_n 0, 1) := by decide +kernel
theorem dX11_orders_216 : decode cX11_orders 216 = .ok (.getfield 71, 3) := by decide +kernel
theorem dX11_orders_219 : decode cX11_orders 219 = .ok (.sipush 500, 3) := by decide +kernel
theorem dX11_orders_222 : decode cX11_orders 222 = .ok (.iload_n 1, 1) := by decide +kernel
theorem dX11_orders_223 : decode cX11_orders 223 = .ok (.imul, 1) := by decide +kernel
theorem dX11_orders_224 : decode cX11_orders 224 = .ok (.iload_n 2, 1) := by decide +kernel
theorem dX11_orders_225 : decode cX11_orders 225 = .ok (.iadd, 1) := by decide +kernel
theorem dX11_orders_226 : decode cX11_orders 226 = .ok (.aload_n 0, 1) := by decide +kernel
theorem dX11_orders_227 : decode cX11_orders 227 = .ok (.getfield 89, 3) := by decide +kernel
theorem dX11_orders_230 : decode cX11_orders 230 = .ok (.iload_n 2, 1) := by decide +kernel
theorem dX11_orders_231 : decode cX11_orders 231 = .ok (.iaload, 1) := by decide +kernel
theorem dX11_orders_232 : decode cX11_orders 232 = .ok (.iastore, 1) := by decide +kernel
theorem dX11_orders_233 : decode cX11_orders 233 = .ok (.iinc 2 1, 3) := by decide +kernel
theorem dX11_orders_236 : decode cX11_orders 236 = .ok (.goto (-47), 3) := by decide +kernel
theorem dX11_orders_239 : decode cX11_orders 239 = .ok (.iconst 0, 1) := by decide +kernel
theorem dX11_orders_240 : decode cX11_orders 240 = .ok (.istore_n 2, 1) := by decide +kernel
theorem dX11_orders_241 : decode cX11_orders 241 = .ok (.iload_n 2, 1) := by decide +kernel
theorem dX11_orders_242 : decode cX11_orders 242 = .ok (.aload_n 0, 1) := by decide +kernel
theorem dX11_orders_243 : decode cX11_orders 243 = .ok (.getfield 322, 3) := by decide +kernel
theorem dX11_orders_246 : decode cX11_orders 246 = .ok (.if_icmp .ge 43, 3) := by decide +kernel
theorem dX11_orders_249 : decode cX11_orders 249 = .ok (.aload_n 0, 1) := by decide +kernel
theorem dX11_orders_250 : decode cX11_orders 250 = .ok (.getfield 77, 3) := by decide +kernel
theorem dX11_orders_253 : decode cX11_orders 253 = .ok (.bipush 8, 2) := by decide +kernel
theorem dX11_orders_255 : decode cX11_orders 255 = .ok (.iload_n 1, 1) := by decide +kernel
theorem dX11_orders_256 : decode cX11_orders 256 = .ok (.imul, 1) := by decide +kernel
theorem dX11_orders_257 : decode cX11_orders 257 = .ok (.iload_n 2, 1) := by decide +kernel
theorem dX11_orders_258 : decode cX11_orders 258 = .ok (.iadd, 1) := by decide +kernel
theorem dX11_orders_259 : decode cX11_orders 259 = .ok (.aload_n 0, 1) := by decide +kernel
theorem dX11_orders_260 : decode cX11_orders 260 = .ok (.getfield 95, 3) := by decide +kernel
theorem dX11_orders_263 : decode cX11_orders 263 = .ok (.iload_n 2, 1) := by decide +kernel
theorem dX11_orders_264 : decode cX11_orders 264 = .ok (.iaload, 1) := by decide +kernel
theorem dX11_orders_265 : decode cX11_orders 265 = .ok (.iastore, 1) := by decide +kernel
theorem dX11_orders_266 : decode cX11_orders 266 = .ok (.aload_n 0, 1) := by decide +kernel
theorem dX11_orders_267 : decode cX11_orders 267 = .ok (.getfield 80, 3) := by decide +kernel
theorem dX11_orders_270 : decode cX11_orders 270 = .ok (.bipush 8, 2) := by decide +kernel
theorem dX11_orders_272 : decode cX11_orders 272 = .ok (.iload_n 1, 1) := by decide +kernel
theorem dX11_orders_273 : decode cX11_orders 273 = .ok (.imul, 1) := by decide +kernel
theorem dX11_orders_274 : decode cX11_orders 274 = .ok (.iload_n 2, 1) := by decide +kernel
theorem dX11_orders_275 : decode cX11_orders 275 = .ok (.iadd, 1) := by decide +kernel
theorem dX11_orders_276 : decode cX11_orders 276 = .ok (.aload_n 0, 1) := by decide +kernel
theorem dX11_orders_277 : decode cX11_orders 277 = .ok (.getfield 98, 3) := by decide +kernel
theorem dX11_orders_280 : decode cX11_orders 280 = .ok (.iload_n 2, 1) := by decide +kernel
theorem dX11_orders_281 : decode cX11_orders 281 = .ok (.iaload, 1) := by decide +kernel
theorem dX11_orders_282 : decode cX11_orders 282 = .ok (.iastore, 1) := by decide +kernel
theorem dX11_orders_283 : decode cX11_orders 283 = .ok (.iinc 2 1, 3) := by decide +kernel
theorem dX11_orders_286 : decode cX11_orders 286 = .ok (.goto (-45), 3) := by decide +kernel
theorem dX11_orders_289 : decode cX11_orders 289 = .ok (.iconst 0, 1) := by decide +kernel
theorem dX11_orders_290 : decode cX11_orders 290 = .ok (.istore_n 2, 1) := by decide +kernel
theorem dX11_orders_291 : decode cX11_orders 291 = .ok (.iload_n 2, 1) := by decide +kernel
theorem dX11_orders_292 : decode cX11_orders 292 = .ok (.aload_n 0, 1) := by decide +kernel
theorem dX11_orders_293 : decode cX11_orders 293 = .ok (.getfield 322, 3) := by decide +kernel
theorem dX11_orders_296 : decode cX11_orders 296 = .ok (.if_icmp .gt 26, 3) := by decide +kernel
theorem dX11_orders_299 : decode cX11_orders 299 = .ok (.aload_n 0, 1) := by decide +kernel
theorem dX11_orders_300 : decode cX11_orders 300 = .ok (.getfield 74, 3) := by decide +kernel
theorem dX11_orders_303 : decode cX11_orders 303 = .ok (.bipush 10, 2) := by decide +kernel
theorem dX11_orders_305 : decode cX11_orders 305 = .ok (.iload_n 1, 1) := by decide +kernel
theorem dX11_orders_306 : decode cX11_orders 306 = .ok (.imul, 1) := by decide +kernel
theorem dX11_orders_307 : decode cX11_orders 307 = .ok (.iload_n 2, 1) := by decide +kernel
theorem dX11_orders_308 : decode cX11_orders 308 = .ok (.iadd, 1) := by decide +kernel
theorem dX11_orders_309 : decode cX11_orders 309 = .ok (.aload_n 0, 1) := by decide +kernel
theorem dX11_orders_310 : decode cX11_orders 310 = .ok (.getfield 92, 3) := by decide +kernel
theorem dX11_orders_313 : decode cX11_orders 313 = .ok (.iload_n 2, 1) := by decide +kernel
theorem dX11_orders_314 : decode cX11_orders 314 = .ok (.iaload, 1) := by decide +kernel
theorem dX11_orders_315 : decode cX11_orders 315 = .ok (.iastore, 1) := by decide +kernel
theorem dX11_orders_316 : decode cX11_orders 316 = .ok (.iinc 2 1, 3) := by decide +kernel
theorem dX11_orders_319 : decode cX11_orders 319 = .ok (.goto (-28), 3) := by decide +kernel
theorem dX11_orders_322 : decode cX11_orders 322 = .ok (.aload_n 0, 1) := by decide +kernel
theorem dX11_orders_323 : decode cX11_orders 323 = .ok (.getfield 83, 3) := by decide +kernel
theorem dX11_orders_326 : decode cX11_orders 326 = .ok (.iload_n 1, 1) := by decide +kernel
theorem dX11_orders_327 : decode cX11_orders 327 = .ok (.aload_n 0, 1) := by decide +kernel
theorem dX11_orders_328 : decode cX11_orders 328 = .ok (.getfield 322, 3) := by decide +kernel
theorem dX11_orders_331 : decode cX11_orders 331 = .ok (.iastore, 1) := by decide +kernel
theorem dX11_orders_332 : decode cX11_orders 332 = .ok (.aload_n 0, 1) := by decide +kernel
theorem dX11_orders_333 : decode cX11_orders 333 = .ok (.getfield 322, 3) := by decide +kernel
theorem dX11_orders_336 : decode cX11_orders 336 = .ok (.ireturn, 1) := by decide +kernel
theorem dX11_fault_0 : decode cX11_fault 0 = .ok (.iload_n 1, 1) := by decide +kernel
theorem dX11_fault_1 : decode cX11_fault 1 = .ok (.ifCond .ne 10, 3) := by decide +kernel
theorem dX11_fault_4 : decode cX11_fault 4 = .ok (.aload_n 0, 1) := by decide +kernel
theorem dX11_fault_5 : decode cX11_fault 5 = .ok (.getfield 230, 3) := by decide +kernel
theorem dX11_fault_8 : decode cX11_fault 8 = .ok (.goto 16, 3) := by decide +kernel
theorem dX11_fault_11 : decode cX11_fault 11 = .ok (.iload_n 1, 1) := by decide +kernel
theorem dX11_fault_12 : decode cX11_fault 12 = .ok (.iconst 1, 1) := by decide +kernel
theorem dX11_fault_13 : decode cX11_fault 13 = .ok (.if_icmp .ne 10, 3) := by decide +kernel
theorem dX11_fault_16 : decode cX11_fault 16 = .ok (.aload_n 0, 1) := by decide +kernel
theorem dX11_fault_17 : decode cX11_fault 17 = .ok (.getfield 104, 3) := by decide +kernel
theorem dX11_fault_20 : decode cX11_fault 20 = .ok (.goto 4, 3) := by decide +kernel
theorem dX11_fault_23 : decode cX11_fault 23 = .ok (.iconst (-1), 1) := by decide +kernel
theorem dX11_fault_24 : decode cX11_fault 24 = .ok (.ireturn, 1) := by decide +kernel
theorem dX11_holds_0 : decode cX11_holds 0 = .ok (.iconst 0, 1) := by decide +kernel
theorem dX11_holds_1 : decode cX11_holds 1 = .ok (.istore_n 3, 1) := by decide +kernel
theorem dX11_holds_2 : decode cX11_holds 2 = .ok (.sipush 500, 3) := by decide +kernel
theorem dX11_holds_5 : decode cX11_holds 5 = .ok (.iload_n 1, 1) := by decide +kernel
theorem dX11_holds_6 : decode cX11_holds 6 = .ok (.imul, 1) := by decide +kernel
theorem dX11_holds_7 : decode cX11_holds 7 = .ok (.aload_n 0, 1) := by decide +kernel
theorem dX11_holds_8 : decode cX11_holds 8 = .ok (.getfield 74, 3) := by decide +kernel
theorem dX11_holds_11 : decode cX11_holds 11 = .ok (.bipush 10, 2) := by decide +kernel
theorem dX11_holds_13 : decode cX11_holds 13 = .ok (.iload_n 1, 1) := by decide +kernel
theorem dX11_holds_14 : decode cX11_holds 14 = .ok (.imul, 1) := by decide +kernel
theorem dX11_holds_15 : decode cX11_holds 15 = .ok (.iload_n 2, 1) := by decide +kernel
theorem dX11_holds_16 : decode cX11_holds 16 = .ok (.iadd, 1) := by decide +kernel
theorem dX11_holds_17 : decode cX11_holds 17 = .ok (.iaload, 1) := by decide +kernel
theorem dX11_holds_18 : decode cX11_holds 18 = .ok (.iadd, 1) := by decide +kernel
theorem dX11_holds_19 : decode cX11_holds 19 = .ok (.istore 4, 2) := by decide +kernel
theorem dX11_holds_21 : decode cX11_holds 21 = .ok (.iload 4, 2) := by decide +kernel
theorem dX11_holds_23 : decode cX11_holds 23 = .ok (.sipush 500, 3) := by decide +kernel
theorem dX11_holds_26 : decode cX11_holds 26 = .ok (.iload_n 1, 1) := by decide +kernel
theorem dX11_holds_27 : decode cX11_holds 27 = .ok (.imul, 1) := by decide +kernel
theorem dX11_holds_28 : decode cX11_holds 28 = .ok (.aload_n 0, 1) := by decide +kernel
theorem dX11_holds_29 : decode cX11_holds 29 = .ok (.getfield 74, 3) := by decide +kernel
theorem dX11_holds_32 : decode cX11_holds 32 = .ok (.bipush 10, 2) := by decide +kernel
theorem dX11_holds_34 : decode cX11_holds 34 = .ok (.iload_n 1, 1) := by decide +kernel
theorem dX11_holds_35 : decode cX11_holds 35 = .ok (.imul, 1) := by decide +kernel
theorem dX11_holds_36 : decode cX11_holds 36 = .ok (.iload_n 2, 1) := by decide +kernel
theorem dX11_holds_37 : decode cX11_holds 37 = .ok (.iadd, 1) := by decide +kernel
theorem dX11_holds_38 : decode cX11_holds 38 = .ok (.iconst 1, 1) := by decide +kernel
theorem dX11_holds_39 : decode cX11_holds 39 = .ok (.iadd, 1) := by decide +kernel
theorem dX11_holds_40 : decode cX11_holds 40 = .ok (.iaload, 1) := by decide +kernel
theorem dX11_holds_41 : decode cX11_holds 41 = .ok (.iadd, 1) := by decide +kernel
theorem dX11_holds_42 : decode cX11_holds 42 = .ok (.if_icmp .ge 306, 3) := by decide +kernel
theorem dX11_holds_45 : decode cX11_holds 45 = .ok (.aload_n 0, 1) := by decide +kernel
theorem dX11_holds_46 : decode cX11_holds 46 = .ok (.getfield 68, 3) := by decide +kernel
theorem dX11_holds_49 : decode cX11_holds 49 = .ok (.iload 4, 2) := by decide +kernel
theorem dX11_holds_51 : decode cX11_holds 51 = .ok (.iaload, 1) := by decide +kernel
theorem dX11_holds_52 : decode cX11_holds 52 = .ok (.istore 5, 2) := by decide +kernel
theorem dX11_holds_54 : decode cX11_holds 54 = .ok (.iload 5, 2) := by decide +kernel
theorem dX11_holds_56 : decode cX11_holds 56 = .ok (.bipush 40, 2) := by decide +kernel
theorem dX11_holds_58 : decode cX11_holds 58 = .ok (.if_icmp .ge 40, 3) := by decide +kernel
theorem dX11_holds_61 : decode cX11_holds 61 = .ok (.aload_n 0, 1) := by decide +kernel
theorem dX11_holds_62 : decode cX11_holds 62 = .ok (.getfield 110, 3) := by decide +kernel
theorem dX11_holds_65 : decode cX11_holds 65 = .ok (.iload_n 3, 1) := by decide +kernel
theorem dX11_holds_66 : decode cX11_holds 66 = .ok (.iload 5, 2) := by decide +kernel
theorem dX11_holds_68 : decode cX11_holds 68 = .ok (.ifCond .ne 13, 3) := by decide +kernel
theorem dX11_holds_71 : decode cX11_holds 71 = .ok (.aload_n 0, 1) := by decide +kernel
theorem dX11_holds_72 : decode cX11_holds 72 = .ok (.getfield 71, 3) := by decide +kernel
theorem dX11_holds_75 : decode cX11_holds 75 = .ok (.iload 4, 2) := by decide +kernel
theorem dX11_holds_77 : decode cX11_holds 77 = .ok (.iaload, 1) := by decide +kernel
theorem dX11_holds_78 : decode cX11_holds 78 = .ok (.goto 13, 3) := by decide +kernel
theorem dX11_holds_81 : decode cX11_holds 81 = .ok (.aload_n 0, 1) := by decide +kernel
theorem dX11_holds_82 : decode cX11_holds 82 = .ok (.getfield 113, 3) := by decide +kernel
theorem dX11_holds_85 : decode cX11_holds 85 = .ok (.iload 5, 2) := by decide +kernel
theorem dX11_holds_87 : decode cX11_holds 87 = .ok (.bipush 20, 2) := by decide +kernel
theorem dX11_holds_89 : decode cX11_holds 89 = .ok (.isub, 1) := by decide +kernel
theorem dX11_holds_90 : decode cX11_holds 90 = .ok (.iaload, 1) := by decide +kernel
theorem dX11_holds_91 : decode cX11_holds 91 = .ok (.iastore, 1) := by decide +kernel
theorem dX11_holds_92 : decode cX11_holds 92 = .ok (.iinc 3 1, 3) := by decide +kernel
theorem dX11_holds_95 : decode cX11_holds 95 = .ok (.goto 247, 3) := by decide +kernel
theorem dX11_holds_98 : decode cX11_holds 98 = .ok (.iload 5, 2) := by decide +kernel
theorem dX11_holds_100 : decode cX11_holds 100 = .ok (.bipush 40, 2) := by decide +kernel
theorem dX11_holds_102 : decode cX11_holds 102 = .ok (.if_icmp .ne 30, 3) := by decide +kernel
theorem dX11_holds_105 : decode cX11_holds 105 = .ok (.aload_n 0, 1) := by decide +kernel
theorem dX11_holds_106 : decode cX11_holds 106 = .ok (.getfield 110, 3) := by decide +kernel
theorem dX11_holds_109 : decode cX11_holds 109 = .ok (.iload_n 3, 1) := by decide +kernel
theorem dX11_holds_110 : decode cX11_holds 110 = .ok (.iconst 1, 1) := by decide +kernel
theorem dX11_holds_111 : decode cX11_holds 111 = .ok (.isub, 1) := by decide +kernel
theorem dX11_holds_112 : decode cX11_holds 112 = .ok (.aload_n 0, 1) := by decide +kernel
theorem dX11_holds_113 : decode cX11_holds 113 = .ok (.getfield 110, 3) := by decide +kernel
theorem dX11_holds_116 : decode cX11_holds 116 = .ok (.iload_n 3, 1) := by decide +kernel
theorem dX11_holds_117 : decode cX11_holds 117 = .ok (.iconst 1, 1) := by decide +kernel
theorem dX11_holds_118 : decode cX11_holds 118 = .ok (.isub, 1) := by decide +kernel
theorem dX11_holds_119 : decode cX11_holds 119 = .ok (.iaload, 1) := by decide +kernel
theorem dX11_holds_120 : decode cX11_holds 120 = .ok (.ifCond .ne 7, 3) := by decide +kernel
theorem dX11_holds_123 : decode cX11_holds 123 = .ok (.iconst 1, 1) := by decide +kernel
theorem dX11_holds_124 : decode cX11_holds 124 = .ok (.goto 4, 3) := by decide +kernel
theorem dX11_holds_127 : decode cX11_holds 127 = .ok (.iconst 0, 1) := by decide +kernel
theorem dX11_holds_128 : decode cX11_holds 128 = .ok (.iastore, 1) := by decide +kernel
theorem dX11_holds_129 : decode cX11_holds 129 = .ok (.goto 213, 3) := by decide +kernel
theorem dX11_holds_132 : decode cX11_holds 132 = .ok (.iinc 3 (-1), 3) := by decide +kernel
theorem dX11_holds_135 : decode cX11_holds 135 = .ok (.aload_n 0, 1) := by decide +kernel
theorem dX11_holds_136 : decode cX11_holds 136 = .ok (.getfield 110, 3) := by decide +kernel
theorem dX11_holds_139 : decode cX11_holds 139 = .ok (.iload_n 3, 1) := by decide +kernel
theorem dX11_holds_140 : decode cX11_holds 140 = .ok (.iconst 1, 1) := by decide +kernel
theorem dX11_holds_141 : decode cX11_holds 141 = .ok (.isub, 1) := by decide +kernel
theorem dX11_holds_142 : decode cX11_holds 142 = .ok (.iaload, 1) := by decide +kernel
theorem dX11_holds_143 : decode cX11_holds 143 = .ok (.istore 6, 2) := by decide +kernel
theorem dX11_holds_145 : decode cX11_holds 145 = .ok (.aload_n 0, 1) := by decide +kernel
theorem dX11_holds_146 : decode cX11_holds 146 = .ok (.getfield 110, 3) := by decide +kernel
theorem dX11_holds_149 : decode cX11_holds 149 = .ok (.iload_n 3, 1) := by decide +kernel
theorem dX11_holds_150 : decode cX11_holds 150 = .ok (.iaload, 1) := by decide +kernel
theorem dX11_holds_151 : decode cX11_holds 151 = .ok (.istore 7, 2) := by decide +kernel
theorem dX11_holds_153 : decode cX11_holds 153 = .ok (.iload 5, 2) := by decide +kernel
theorem dX11_holds_155 : decode cX11_holds 155 = .ok (.tableswitch 174 41 46 #[37, 63, 89, 112, 135, 158], 37) := by decide +kernel
theorem dX11_holds_192 : decode cX11_holds 192 = .ok (.aload_n 0, 1) := by decide +kernel
theorem dX11_holds_193 : decode cX11_holds 193 = .ok (.getfield 110, 3) := by decide +kernel
theorem dX11_holds_196 : decode cX11_holds 196 = .ok (.iload_n 3, 1) := by decide +kernel
theorem dX11_holds_197 : decode cX11_holds 197 = .ok (.iconst 1, 1) := by decide +kernel
theorem dX11_holds_198 : decode cX11_holds 198 = .ok (.isub, 1) := by decide +kernel
theorem dX11_holds_199 : decode cX11_holds 199 = .ok (.iload 6, 2) := by decide +kernel
theorem dX11_holds_201 : decode cX11_holds 201 = .ok (.ifCond .ne 8, 3) := by decide +kernel
theorem dX11_holds_204 : decode cX11_holds 204 = .ok (.iload 7, 2) := by decide +kernel
theorem dX11_holds_206 : decode cX11_holds 206 = .ok (.ifCond .eq 7, 3) := by decide +kernel
theorem dX11_holds_209 : decode cX11_holds 209 = .ok (.iconst 1, 1) := by decide +kernel
theorem dX11_holds_210 : decode cX11_holds 210 = .ok (.goto 4, 3) := by decide +kernel
theorem dX11_holds_213 : decode cX11_holds 213 = .ok (.iconst 0, 1) := by decide +kernel
theorem dX11_holds_214 : decode cX11_holds 214 = .ok (.iastore, 1) := by decide +kernel
theorem dX11_holds_215 : decode cX11_holds 215 = .ok (.goto 127, 3) := by decide +kernel
theorem dX11_holds_218 : decode cX11_holds 218 = .ok (.aload_n 0, 1) := by decide +kernel
theorem dX11_holds_219 : decode cX11_holds 219 = .ok (.getfield 110, 3) := by decide +kernel
theorem dX11_holds_222 : decode cX11_holds 222 = .ok (.iload_n 3, 1) := by decide +kernel
theorem dX11_holds_223 : decode cX11_holds 223 = .ok (.iconst 1, 1) := by decide +kernel
theorem dX11_holds_224 : decode cX11_holds 224 = .ok (.isub, 1) := by decide +kernel
theorem dX11_holds_225 : decode cX11_holds 225 = .ok (.iload 6, 2) := by decide +kernel
theorem dX11_holds_227 : decode cX11_holds 227 = .ok (.ifCond .eq 12, 3) := by decide +kernel
theorem dX11_holds_230 : decode cX11_holds 230 = .ok (.iload 7, 2) := by decide +kernel
theorem dX11_holds_232 : decode cX11_holds 232 = .ok (.ifCond .eq 7, 3) := by decide +kernel
theorem dX11_holds_235 : decode cX11_holds 235 = .ok (.iconst 1, 1) := by decide +kernel
theorem dX11_holds_236 : decode cX11_holds 236 = .ok (.goto 4, 3) := by decide +kernel
theorem dX11_holds_239 : decode cX11_holds 239 = .ok (.iconst 0, 1) := by decide +kernel
theorem dX11_holds_240 : decode cX11_holds 240 = .ok (.iastore, 1) := by decide +kernel
theorem dX11_holds_241 : decode cX11_holds 241 = .ok (.goto 101, 3) := by decide +kernel
theorem dX11_holds_244 : decode cX11_holds 244 = .ok (.aload_n 0, 1) := by decide +kernel
theorem dX11_holds_245 : decode cX11_holds 245 = .ok (.getfield 110, 3) := by decide +kernel
theorem dX11_holds_248 : decode cX11_holds 248 = .ok (.iload_n 3, 1) := by decide +kernel
theorem dX11_holds_249 : decode cX11_holds 249 = .ok (.iconst 1, 1) := by decide +kernel
theorem dX11_holds_250 : decode cX11_holds 250 = .ok (.isub, 1) := by decide +kernel
theorem dX11_holds_251 : decode cX11_holds 251 = .ok (.iload 6, 2) := by decide +kernel
theorem dX11_holds_253 : decode cX11_holds 253 = .ok (.iload 7, 2) := by decide +kernel
theorem dX11_holds_255 : decode cX11_holds 255 = .ok (.if_icmp .ne 7, 3) := by decide +kernel
theorem dX11_holds_258 : decode cX11_holds 258 = .ok (.iconst 1, 1) := by decide +kernel
theorem dX11_holds_259 : decode cX11_holds 259 = .ok (.goto 4, 3) := by decide +kernel
theorem dX11_holds_262 : decode cX11_holds 262 = .ok (.iconst 0, 1) := by decide +kernel
theorem dX11_holds_263 : decode cX11_holds 263 = .ok (.iastore, 1) := by decide +kernel
theorem dX11_holds_264 : decode cX11_holds 264 = .ok (.goto 78, 3) := by decide +kernel
theorem dX11_holds_267 : decode cX11_holds 267 = .ok (.aload_n 0, 1) := by decide +kernel
theorem dX11_holds_268 : decode cX11_holds 268 = .ok (.getfield 110, 3) := by decide +kernel
theorem dX11_holds_271 : decode cX11_holds 271 = .ok (.iload_n 3, 1) := by decide +kernel
theorem dX11_holds_272 : decode cX11_holds 272 = .ok (.iconst 1, 1) := by decide +kernel
theorem dX11_holds_273 : decode cX11_holds 273 = .ok (.isub, 1) := by decide +kernel
theorem dX11_holds_274 : decode cX11_holds 274 = .ok (.iload 6, 2) := by decide +kernel
theorem dX11_holds_276 : decode cX11_holds 276 = .ok (.iload 7, 2) := by decide +kernel
theorem dX11_holds_278 : decode cX11_holds 278 = .ok (.if_icmp .ge 7, 3) := by decide +kernel
theorem dX11_holds_281 : decode cX11_holds 281 = .ok (.iconst 1, 1) := by decide +kernel
theorem dX11_holds_282 : decode cX11_holds 282 = .ok (.goto 4, 3) := by decide +kernel
theorem dX11_holds_285 : decode cX11_holds 285 = .ok (.iconst 0, 1) := by decide +kernel
theorem dX11_holds_286 : decode cX11_holds 286 = .ok (.iastore, 1) := by decide +kernel
theorem dX11_holds_287 : decode cX11_holds 287 = .ok (.goto 55, 3) := by decide +kernel
theorem dX11_holds_290 : decode cX11_holds 290 = .ok (.aload_n 0, 1) := by decide +kernel
theorem dX11_holds_291 : decode cX11_holds 291 = .ok (.getfield 110, 3) := by decide +kernel
theorem dX11_holds_294 : decode cX11_holds 294 = .ok (.iload_n 3, 1) := by decide +kernel
theorem dX11_holds_295 : decode cX11_holds 295 = .ok (.iconst 1, 1) := by decide +kernel
theorem dX11_holds_296 : decode cX11_holds 296 = .ok (.isub, 1) := by decide +kernel
theorem dX11_holds_297 : decode cX11_holds 297 = .ok (.iload 6, 2) := by decide +kernel
theorem dX11_holds_299 : decode cX11_holds 299 = .ok (.iload 7, 2) := by decide +kernel
theorem dX11_holds_301 : decode cX11_holds 301 = .ok (.if_icmp .le 7, 3) := by decide +kernel
theorem dX11_holds_304 : decode cX11_holds 304 = .ok (.iconst 1, 1) := by decide +kernel
theorem dX11_holds_305 : decode cX11_holds 305 = .ok (.goto 4, 3) := by decide +kernel
theorem dX11_holds_308 : decode cX11_holds 308 = .ok (.iconst 0, 1) := by decide +kernel
theorem dX11_holds_309 : decode cX11_holds 309 = .ok (.iastore, 1) := by decide +kernel
theorem dX11_holds_310 : decode cX11_holds 310 = .ok (.goto 32, 3) := by decide +kernel
theorem dX11_holds_313 : decode cX11_holds 313 = .ok (.aload_n 0, 1) := by decide +kernel
theorem dX11_holds_314 : decode cX11_holds 314 = .ok (.getfield 110, 3) := by decide +kernel
theorem dX11_holds_317 : decode cX11_holds 317 = .ok (.iload_n 3, 1) := by decide +kernel
theorem dX11_holds_318 : decode cX11_holds 318 = .ok (.iconst 1, 1) := by decide +kernel
theorem dX11_holds_319 : decode cX11_holds 319 = .ok (.isub, 1) := by decide +kernel
theorem dX11_holds_320 : decode cX11_holds 320 = .ok (.iload 6, 2) := by decide +kernel
theorem dX11_holds_322 : decode cX11_holds 322 = .ok (.iload 7, 2) := by decide +kernel
theorem dX11_holds_324 : decode cX11_holds 324 = .ok (.iadd, 1) := by decide +kernel
theorem dX11_holds_325 : decode cX11_holds 325 = .ok (.iastore, 1) := by decide +kernel
theorem dX11_holds_326 : decode cX11_holds 326 = .ok (.goto 16, 3) := by decide +kernel
theorem dX11_holds_329 : decode cX11_holds 329 = .ok (.aload_n 0, 1) := by decide +kernel
theorem dX11_holds_330 : decode cX11_holds 330 = .ok (.getfield 110, 3) := by decide +kernel
theorem dX11_holds_333 : decode cX11_holds 333 = .ok (.iload_n 3, 1) := by decide +kernel
theorem dX11_holds_334 : decode cX11_holds 334 = .ok (.iconst 1, 1) := by decide +kernel
theorem dX11_holds_335 : decode cX11_holds 335 = .ok (.isub, 1) := by decide +kernel
theorem dX11_holds_336 : decode cX11_holds 336 = .ok (.iload 6, 2) := by decide +kernel
theorem dX11_holds_338 : decode cX11_holds 338 = .ok (.iload 7, 2) := by decide +kernel
theorem dX11_holds_340 : decode cX11_holds 340 = .ok (.isub, 1) := by decide +kernel
theorem dX11_holds_341 : decode cX11_holds 341 = .ok (.iastore, 1) := by decide +kernel
theorem dX11_holds_342 : decode cX11_holds 342 = .ok (.iinc 4 1, 3) := by decide +kernel
theorem dX11_holds_345 : decode cX11_holds 345 = .ok (.goto (-324), 3) := by decide +kernel
theorem dX11_holds_348 : decode cX11_holds 348 = .ok (.aload_n 0, 1) := by decide +kernel
theorem dX11_holds_349 : decode cX11_holds 349 = .ok (.getfield 110, 3) := by decide +kernel
theorem dX11_holds_352 : decode cX11_holds 352 = .ok (.iconst 0, 1) := by decide +kernel
theorem dX11_holds_353 : decode cX11_holds 353 = .ok (.iaload, 1) := by decide +kernel
theorem dX11_holds_354 : decode cX11_holds 354 = .ok (.ifCond .eq 7, 3) := by decide +kernel
theorem dX11_holds_357 : decode cX11_holds 357 = .ok (.iconst 1, 1) := by decide +kernel
theorem dX11_holds_358 : decode cX11_holds 358 = .ok (.goto 4, 3) := by decide +kernel
theorem dX11_holds_361 : decode cX11_holds 361 = .ok (.iconst 0, 1) := by decide +kernel
theorem dX11_holds_362 : decode cX11_holds 362 = .ok (.ireturn, 1) := by decide +kernel
theorem dX11_earn_0 : decode cX11_earn 0 = .ok (.aload_n 0, 1) := by decide +kernel
theorem dX11_earn_1 : decode cX11_earn 1 = .ok (.getfield 53, 3) := by decide +kernel
theorem dX11_earn_4 : decode cX11_earn 4 = .ok (.iload_n 1, 1) := by decide +kernel
theorem dX11_earn_5 : decode cX11_earn 5 = .ok (.iaload, 1) := by decide +kernel
theorem dX11_earn_6 : decode cX11_earn 6 = .ok (.i2l, 1) := by decide +kernel
theorem dX11_earn_7 : decode cX11_earn 7 = .ok (.iload_n 2, 1) := by decide +kernel
theorem dX11_earn_8 : decode cX11_earn 8 = .ok (.i2l, 1) := by decide +kernel
theorem dX11_earn_9 : decode cX11_earn 9 = .ok (.aload_n 0, 1) := by decide +kernel
theorem dX11_earn_10 : decode cX11_earn 10 = .ok (.getfield 38, 3) := by decide +kernel
theorem dX11_earn_13 : decode cX11_earn 13 = .ok (.iload_n 1, 1) := by decide +kernel
theorem dX11_earn_14 : decode cX11_earn 14 = .ok (.iaload, 1) := by decide +kernel
theorem dX11_earn_15 : decode cX11_earn 15 = .ok (.i2l, 1) := by decide +kernel
theorem dX11_earn_16 : decode cX11_earn 16 = .ok (.lmul, 1) := by decide +kernel
theorem dX11_earn_17 : decode cX11_earn 17 = .ok (.iload_n 3, 1) := by decide +kernel
theorem dX11_earn_18 : decode cX11_earn 18 = .ok (.i2l, 1) := by decide +kernel
theorem dX11_earn_19 : decode cX11_earn 19 = .ok (.lmul, 1) := by decide +kernel
theorem dX11_earn_20 : decode cX11_earn 20 = .ok (.iload 4, 2) := by decide +kernel
theorem dX11_earn_22 : decode cX11_earn 22 = .ok (.i2l, 1) := by decide +kernel
theorem dX11_earn_23 : decode cX11_earn 23 = .ok (.ldiv, 1) := by decide +kernel
theorem dX11_earn_24 : decode cX11_earn 24 = .ok (.ladd, 1) := by decide +kernel
theorem dX11_earn_25 : decode cX11_earn 25 = .ok (.lstore 5, 2) := by decide +kernel
theorem dX11_earn_27 : decode cX11_earn 27 = .ok (.aload_n 0, 1) := by decide +kernel
theorem dX11_earn_28 : decode cX11_earn 28 = .ok (.getfield 53, 3) := by decide +kernel
theorem dX11_earn_31 : decode cX11_earn 31 = .ok (.iload_n 1, 1) := by decide +kernel
theorem dX11_earn_32 : decode cX11_earn 32 = .ok (.lload 5, 2) := by decide +kernel
theorem dX11_earn_34 : decode cX11_earn 34 = .ok (.ldc2_w 331, 3) := by decide +kernel
theorem dX11_earn_37 : decode cX11_earn 37 = .ok (.lcmp, 1) := by decide +kernel
theorem dX11_earn_38 : decode cX11_earn 38 = .ok (.ifCond .le 9, 3) := by decide +kernel
theorem dX11_earn_41 : decode cX11_earn 41 = .ok (.ldc_w 333, 3) := by decide +kernel
theorem dX11_earn_44 : decode cX11_earn 44 = .ok (.goto 6, 3) := by decide +kernel
theorem dX11_earn_47 : decode cX11_earn 47 = .ok (.lload 5, 2) := by decide +kernel
theorem dX11_earn_49 : decode cX11_earn 49 = .ok (.l2i, 1) := by decide +kernel
theorem dX11_earn_50 : decode cX11_earn 50 = .ok (.iastore, 1) := by decide +kernel
theorem dX11_earn_51 : decode cX11_earn 51 = .ok (.aload_n 0, 1) := by decide +kernel
theorem dX11_earn_52 : decode cX11_earn 52 = .ok (.getfield 35, 3) := by decide +kernel
theorem dX11_earn_55 : decode cX11_earn 55 = .ok (.iload_n 1, 1) := by decide +kernel
theorem dX11_earn_56 : decode cX11_earn 56 = .ok (.dup2, 1) := by decide +kernel
theorem dX11_earn_57 : decode cX11_earn 57 = .ok (.iaload, 1) := by decide +kernel
theorem dX11_earn_58 : decode cX11_earn 58 = .ok (.iload_n 2, 1) := by decide +kernel
theorem dX11_earn_59 : decode cX11_earn 59 = .ok (.isub, 1) := by decide +kernel
theorem dX11_earn_60 : decode cX11_earn 60 = .ok (.iastore, 1) := by decide +kernel
theorem dX11_earn_61 : decode cX11_earn 61 = .ok (.aload_n 0, 1) := by decide +kernel
theorem dX11_earn_62 : decode cX11_earn 62 = .ok (.getfield 59, 3) := by decide +kernel
theorem dX11_earn_65 : decode cX11_earn 65 = .ok (.iload_n 1, 1) := by decide +kernel
theorem dX11_earn_66 : decode cX11_earn 66 = .ok (.dup2, 1) := by decide +kernel
theorem dX11_earn_67 : decode cX11_earn 67 = .ok (.iaload, 1) := by decide +kernel
theorem dX11_earn_68 : decode cX11_earn 68 = .ok (.iload_n 2, 1) := by decide +kernel
theorem dX11_earn_69 : decode cX11_earn 69 = .ok (.iadd, 1) := by decide +kernel
theorem dX11_earn_70 : decode cX11_earn 70 = .ok (.iastore, 1) := by decide +kernel
theorem dX11_earn_71 : decode cX11_earn 71 = .ok (.return_, 1) := by decide +kernel
theorem dX11_rest_0 : decode cX11_rest 0 = .ok (.aload_n 0, 1) := by decide +kernel
theorem dX11_rest_1 : decode cX11_rest 1 = .ok (.getfield 47, 3) := by decide +kernel
theorem dX11_rest_4 : decode cX11_rest 4 = .ok (.iload_n 1, 1) := by decide +kernel
theorem dX11_rest_5 : decode cX11_rest 5 = .ok (.aload_n 0, 1) := by decide +kernel
theorem dX11_rest_6 : decode cX11_rest 6 = .ok (.getfield 47, 3) := by decide +kernel
theorem dX11_rest_9 : decode cX11_rest 9 = .ok (.iload_n 1, 1) := by decide +kernel
theorem dX11_rest_10 : decode cX11_rest 10 = .ok (.iaload, 1) := by decide +kernel
theorem dX11_rest_11 : decode cX11_rest 11 = .ok (.bipush 15, 2) := by decide +kernel
theorem dX11_rest_13 : decode cX11_rest 13 = .ok (.if_icmp .ge 7, 3) := by decide +kernel
theorem dX11_rest_16 : decode cX11_rest 16 = .ok (.iconst 0, 1) := by decide +kernel
theorem dX11_rest_17 : decode cX11_rest 17 = .ok (.goto 12, 3) := by decide +kernel
theorem dX11_rest_20 : decode cX11_rest 20 = .ok (.aload_n 0, 1) := by decide +kernel
theorem dX11_rest_21 : decode cX11_rest 21 = .ok (.getfield 47, 3) := by decide +kernel
theorem dX11_rest_24 : decode cX11_rest 24 = .ok (.iload_n 1, 1) := by decide +kernel
theorem dX11_rest_25 : decode cX11_rest 25 = .ok (.iaload, 1) := by decide +kernel
theorem dX11_rest_26 : decode cX11_rest 26 = .ok (.bipush 15, 2) := by decide +kernel
theorem dX11_rest_28 : decode cX11_rest 28 = .ok (.isub, 1) := by decide +kernel
theorem dX11_rest_29 : decode cX11_rest 29 = .ok (.iastore, 1) := by decide +kernel
theorem dX11_rest_30 : decode cX11_rest 30 = .ok (.return_, 1) := by decide +kernel
theorem dX11_walk_0 : decode cX11_walk 0 = .ok (.aload_n 0, 1) := by decide +kernel
theorem dX11_walk_1 : decode cX11_walk 1 = .ok (.getfield 13, 3) := by decide +kernel
theorem dX11_walk_4 : decode cX11_walk 4 = .ok (.aload_n 0, 1) := by decide +kernel
theorem dX11_walk_5 : decode cX11_walk 5 = .ok (.getfield 50, 3) := by decide +kernel
theorem dX11_walk_8 : decode cX11_walk 8 = .ok (.iload_n 1, 1) := by decide +kernel
theorem dX11_walk_9 : decode cX11_walk 9 = .ok (.iaload, 1) := by decide +kernel
theorem dX11_walk_10 : decode cX11_walk 10 = .ok (.iaload, 1) := by decide +kernel
theorem dX11_walk_11 : decode cX11_walk 11 = .ok (.istore_n 2, 1) := by decide +kernel
theorem dX11_walk_12 : decode cX11_walk 12 = .ok (.aload_n 0, 1) := by decide +kernel
theorem dX11_walk_13 : decode cX11_walk 13 = .ok (.getfield 50, 3) := by decide +kernel
theorem dX11_walk_16 : decode cX11_walk 16 = .ok (.iload_n 1, 1) := by decide +kernel
theorem dX11_walk_17 : decode cX11_walk 17 = .ok (.dup2, 1) := by decide +kernel
theorem dX11_walk_18 : decode cX11_walk 18 = .ok (.iaload, 1) := by decide +kernel
theorem dX11_walk_19 : decode cX11_walk 19 = .ok (.iconst 1, 1) := by decide +kernel
theorem dX11_walk_20 : decode cX11_walk 20 = .ok (.iadd, 1) := by decide +kernel
theorem dX11_walk_21 : decode cX11_walk 21 = .ok (.iastore, 1) := by decide +kernel
theorem dX11_walk_22 : decode cX11_walk 22 = .ok (.aload_n 0, 1) := by decide +kernel
theorem dX11_walk_23 : decode cX11_walk 23 = .ok (.getfield 47, 3) := by decide +kernel
theorem dX11_walk_26 : decode cX11_walk 26 = .ok (.iload_n 1, 1) := by decide +kernel
theorem dX11_walk_27 : decode cX11_walk 27 = .ok (.dup2, 1) := by decide +kernel
theorem dX11_walk_28 : decode cX11_walk 28 = .ok (.iaload, 1) := by decide +kernel
theorem dX11_walk_29 : decode cX11_walk 29 = .ok (.iload_n 2, 1) := by decide +kernel
theorem dX11_walk_30 : decode cX11_walk 30 = .ok (.iadd, 1) := by decide +kernel
theorem dX11_walk_31 : decode cX11_walk 31 = .ok (.iastore, 1) := by decide +kernel
theorem dX11_walk_32 : decode cX11_walk 32 = .ok (.aload_n 0, 1) := by decide +kernel
theorem dX11_walk_33 : decode cX11_walk 33 = .ok (.getfield 38, 3) := by decide +kernel
theorem dX11_walk_36 : decode cX11_walk 36 = .ok (.iload_n 1, 1) := by decide +kernel
theorem dX11_walk_37 : decode cX11_walk 37 = .ok (.aload_n 0, 1) := by decide +kernel
theorem dX11_walk_38 : decode cX11_walk 38 = .ok (.getfield 38, 3) := by decide +kernel
theorem dX11_walk_41 : decode cX11_walk 41 = .ok (.iload_n 1, 1) := by decide +kernel
theorem dX11_walk_42 : decode cX11_walk 42 = .ok (.iaload, 1) := by decide +kernel
theorem dX11_walk_43 : decode cX11_walk 43 = .ok (.iload_n 2, 1) := by decide +kernel
theorem dX11_walk_44 : decode cX11_walk 44 = .ok (.iconst 5, 1) := by decide +kernel
theorem dX11_walk_45 : decode cX11_walk 45 = .ok (.idiv, 1) := by decide +kernel
theorem dX11_walk_46 : decode cX11_walk 46 = .ok (.if_icmp .ge 7, 3) := by decide +kernel
theorem dX11_walk_49 : decode cX11_walk 49 = .ok (.iconst 0, 1) := by decide +kernel
theorem dX11_walk_50 : decode cX11_walk 50 = .ok (.goto 13, 3) := by decide +kernel
theorem dX11_walk_53 : decode cX11_walk 53 = .ok (.aload_n 0, 1) := by decide +kernel
theorem dX11_walk_54 : decode cX11_walk 54 = .ok (.getfield 38, 3) := by decide +kernel
theorem dX11_walk_57 : decode cX11_walk 57 = .ok (.iload_n 1, 1) := by decide +kernel
theorem dX11_walk_58 : decode cX11_walk 58 = .ok (.iaload, 1) := by decide +kernel
theorem dX11_walk_59 : decode cX11_walk 59 = .ok (.iload_n 2, 1) := by decide +kernel
theorem dX11_walk_60 : decode cX11_walk 60 = .ok (.iconst 5, 1) := by decide +kernel
theorem dX11_walk_61 : decode cX11_walk 61 = .ok (.idiv, 1) := by decide +kernel
theorem dX11_walk_62 : decode cX11_walk 62 = .ok (.isub, 1) := by decide +kernel
theorem dX11_walk_63 : decode cX11_walk 63 = .ok (.iastore, 1) := by decide +kernel
theorem dX11_walk_64 : decode cX11_walk 64 = .ok (.aload_n 0, 1) := by decide +kernel
theorem dX11_walk_65 : decode cX11_walk 65 = .ok (.getfield 47, 3) := by decide +kernel
theorem dX11_walk_68 : decode cX11_walk 68 = .ok (.iload_n 1, 1) := by decide +kernel
theorem dX11_walk_69 : decode cX11_walk 69 = .ok (.iaload, 1) := by decide +kernel
theorem dX11_walk_70 : decode cX11_walk 70 = .ok (.bipush 60, 2) := by decide +kernel
theorem dX11_walk_72 : decode cX11_walk 72 = .ok (.if_icmp .le 71, 3) := by decide +kernel
theorem dX11_walk_75 : decode cX11_walk 75 = .ok (.aload_n 0, 1) := by decide +kernel
theorem dX11_walk_76 : decode cX11_walk 76 = .ok (.getfield 35, 3) := by decide +kernel
theorem dX11_walk_79 : decode cX11_walk 79 = .ok (.iload_n 1, 1) := by decide +kernel
theorem dX11_walk_80 : decode cX11_walk 80 = .ok (.iaload, 1) := by decide +kernel
theorem dX11_walk_81 : decode cX11_walk 81 = .ok (.bipush 20, 2) := by decide +kernel
theorem dX11_walk_83 : decode cX11_walk 83 = .ok (.idiv, 1) := by decide +kernel
theorem dX11_walk_84 : decode cX11_walk 84 = .ok (.iconst 1, 1) := by decide +kernel
theorem dX11_walk_85 : decode cX11_walk 85 = .ok (.iadd, 1) := by decide +kernel
theorem dX11_walk_86 : decode cX11_walk 86 = .ok (.istore_n 3, 1) := by decide +kernel
theorem dX11_walk_87 : decode cX11_walk 87 = .ok (.iload_n 3, 1) := by decide +kernel
theorem dX11_walk_88 : decode cX11_walk 88 = .ok (.aload_n 0, 1) := by decide +kernel
theorem dX11_walk_89 : decode cX11_walk 89 = .ok (.getfield 35, 3) := by decide +kernel
theorem dX11_walk_92 : decode cX11_walk 92 = .ok (.iload_n 1, 1) := by decide +kernel
theorem dX11_walk_93 : decode cX11_walk 93 = .ok (.iaload, 1) := by decide +kernel
theorem dX11_walk_94 : decode cX11_walk 94 = .ok (.if_icmp .le 12, 3) := by decide +kernel
theorem dX11_walk_97 : decode cX11_walk 97 = .ok (.aload_n 0, 1) := by decide +kernel
theorem dX11_walk_98 : decode cX11_walk 98 = .ok (.getfield 35, 3) := by decide +kernel
theorem dX11_walk_101 : decode cX11_walk 101 = .ok (.iload_n 1, 1) := by decide +kernel
theorem dX11_walk_102 : decode cX11_walk 102 = .ok (.iaload, 1) := by decide +kernel
theorem dX11_walk_103 : decode cX11_walk 103 = .ok (.goto 4, 3) := by decide +kernel
theorem dX11_walk_106 : decode cX11_walk 106 = .ok (.iload_n 3, 1) := by decide +kernel
theorem dX11_walk_107 : decode cX11_walk 107 = .ok (.istore_n 3, 1) := by decide +kernel
theorem dX11_walk_108 : decode cX11_walk 108 = .ok (.aload_n 0, 1) := by decide +kernel
theorem dX11_walk_109 : decode cX11_walk 109 = .ok (.getfield 35, 3) := by decide +kernel
theorem dX11_walk_112 : decode cX11_walk 112 = .ok (.iload_n 1, 1) := by decide +kernel
theorem dX11_walk_113 : decode cX11_walk 113 = .ok (.dup2, 1) := by decide +kernel
theorem dX11_walk_114 : decode cX11_walk 114 = .ok (.iaload, 1) := by decide +kernel
theorem dX11_walk_115 : decode cX11_walk 115 = .ok (.iload_n 3, 1) := by decide +kernel
theorem dX11_walk_116 : decode cX11_walk 116 = .ok (.isub, 1) := by decide +kernel
theorem dX11_walk_117 : decode cX11_walk 117 = .ok (.iastore, 1) := by decide +kernel
theorem dX11_walk_118 : decode cX11_walk 118 = .ok (.aload_n 0, 1) := by decide +kernel
theorem dX11_walk_119 : decode cX11_walk 119 = .ok (.getfield 56, 3) := by decide +kernel
theorem dX11_walk_122 : decode cX11_walk 122 = .ok (.iload_n 1, 1) := by decide +kernel
theorem dX11_walk_123 : decode cX11_walk 123 = .ok (.dup2, 1) := by decide +kernel
theorem dX11_walk_124 : decode cX11_walk 124 = .ok (.iaload, 1) := by decide +kernel
theorem dX11_walk_125 : decode cX11_walk 125 = .ok (.iload_n 3, 1) := by decide +kernel
theorem dX11_walk_126 : decode cX11_walk 126 = .ok (.iadd, 1) := by decide +kernel
theorem dX11_walk_127 : decode cX11_walk 127 = .ok (.iastore, 1) := by decide +kernel
theorem dX11_walk_128 : decode cX11_walk 128 = .ok (.aload_n 0, 1) := by decide +kernel
theorem dX11_walk_129 : decode cX11_walk 129 = .ok (.getfield 26, 3) := by decide +kernel
theorem dX11_walk_132 : decode cX11_walk 132 = .ok (.aload_n 0, 1) := by decide +kernel
theorem dX11_walk_133 : decode cX11_walk 133 = .ok (.getfield 50, 3) := by decide +kernel
theorem dX11_walk_136 : decode cX11_walk 136 = .ok (.iload_n 1, 1) := by decide +kernel
theorem dX11_walk_137 : decode cX11_walk 137 = .ok (.iaload, 1) := by decide +kernel
theorem dX11_walk_138 : decode cX11_walk 138 = .ok (.dup2, 1) := by decide +kernel
theorem dX11_walk_139 : decode cX11_walk 139 = .ok (.iaload, 1) := by decide +kernel
theorem dX11_walk_140 : decode cX11_walk 140 = .ok (.iload_n 3, 1) := by decide +kernel
theorem dX11_walk_141 : decode cX11_walk 141 = .ok (.iadd, 1) := by decide +kernel
theorem dX11_walk_142 : decode cX11_walk 142 = .ok (.iastore, 1) := by decide +kernel
theorem dX11_walk_143 : decode cX11_walk 143 = .ok (.aload_n 0, 1) := by decide +kernel
theorem dX11_walk_144 : decode cX11_walk 144 = .ok (.getfield 50, 3) := by decide +kernel
theorem dX11_walk_147 : decode cX11_walk 147 = .ok (.iload_n 1, 1) := by decide +kernel
theorem dX11_walk_148 : decode cX11_walk 148 = .ok (.iaload, 1) := by decide +kernel
theorem dX11_walk_149 : decode cX11_walk 149 = .ok (.aload_n 0, 1) := by decide +kernel
theorem dX11_walk_150 : decode cX11_walk 150 = .ok (.invokevirtual 170, 3) := by decide +kernel
theorem dX11_walk_153 : decode cX11_walk 153 = .ok (.if_icmp .ne 28, 3) := by decide +kernel
theorem dX11_walk_156 : decode cX11_walk 156 = .ok (.aload_n 0, 1) := by decide +kernel
theorem dX11_walk_157 : decode cX11_walk 157 = .ok (.iload_n 1, 1) := by decide +kernel
theorem dX11_walk_158 : decode cX11_walk 158 = .ok (.aload_n 0, 1) := by decide +kernel
theorem dX11_walk_159 : decode cX11_walk 159 = .ok (.getfield 35, 3) := by decide +kernel
theorem dX11_walk_162 : decode cX11_walk 162 = .ok (.iload_n 1, 1) := by decide +kernel
theorem dX11_walk_163 : decode cX11_walk 163 = .ok (.iaload, 1) := by decide +kernel
theorem dX11_walk_164 : decode cX11_walk 164 = .ok (.aload_n 0, 1) := by decide +kernel
theorem dX11_walk_165 : decode cX11_walk 165 = .ok (.aload_n 0, 1) := by decide +kernel
theorem dX11_walk_166 : decode cX11_walk 166 = .ok (.invokevirtual 170, 3) := by decide +kernel
theorem dX11_walk_169 : decode cX11_walk 169 = .ok (.aload_n 0, 1) := by decide +kernel
theorem dX11_walk_170 : decode cX11_walk 170 = .ok (.getfield 178, 3) := by decide +kernel
theorem dX11_walk_173 : decode cX11_walk 173 = .ok (.invokevirtual 185, 3) := by decide +kernel
theorem dX11_walk_176 : decode cX11_walk 176 = .ok (.bipush 100, 2) := by decide +kernel
theorem dX11_walk_178 : decode cX11_walk 178 = .ok (.invokevirtual 334, 3) := by decide +kernel
theorem dX11_walk_181 : decode cX11_walk 181 = .ok (.return_, 1) := by decide +kernel
theorem dX11_eat_0 : decode cX11_eat 0 = .ok (.aload_n 0, 1) := by decide +kernel
theorem dX11_eat_1 : decode cX11_eat 1 = .ok (.getfield 50, 3) := by decide +kernel
theorem dX11_eat_4 : decode cX11_eat 4 = .ok (.iload_n 1, 1) := by decide +kernel
theorem dX11_eat_5 : decode cX11_eat 5 = .ok (.iaload, 1) := by decide +kernel
theorem dX11_eat_6 : decode cX11_eat 6 = .ok (.istore_n 3, 1) := by decide +kernel
theorem dX11_eat_7 : decode cX11_eat 7 = .ok (.aload_n 0, 1) := by decide +kernel
theorem dX11_eat_8 : decode cX11_eat 8 = .ok (.getfield 35, 3) := by decide +kernel
theorem dX11_eat_11 : decode cX11_eat 11 = .ok (.iload_n 1, 1) := by decide +kernel
theorem dX11_eat_12 : decode cX11_eat 12 = .ok (.iaload, 1) := by decide +kernel
theorem dX11_eat_13 : decode cX11_eat 13 = .ok (.aload_n 0, 1) := by decide +kernel
theorem dX11_eat_14 : decode cX11_eat 14 = .ok (.getfield 41, 3) := by decide +kernel
theorem dX11_eat_17 : decode cX11_eat 17 = .ok (.iload_n 1, 1) := by decide +kernel
theorem dX11_eat_18 : decode cX11_eat 18 = .ok (.iaload, 1) := by decide +kernel
theorem dX11_eat_19 : decode cX11_eat 19 = .ok (.imul, 1) := by decide +kernel
theorem dX11_eat_20 : decode cX11_eat 20 = .ok (.istore 4, 2) := by decide +kernel
theorem dX11_eat_22 : decode cX11_eat 22 = .ok (.iload 4, 2) := by decide +kernel
theorem dX11_eat_24 : decode cX11_eat 24 = .ok (.aload_n 0, 1) := by decide +kernel
theorem dX11_eat_25 : decode cX11_eat 25 = .ok (.getfield 17, 3) := by decide +kernel
theorem dX11_eat_28 : decode cX11_eat 28 = .ok (.iload_n 3, 1) := by decide +kernel
theorem dX11_eat_29 : decode cX11_eat 29 = .ok (.iaload, 1) := by decide +kernel
theorem dX11_eat_30 : decode cX11_eat 30 = .ok (.if_icmp .ge 8, 3) := by decide +kernel
theorem dX11_eat_33 : decode cX11_eat 33 = .ok (.iload 4, 2) := by decide +kernel
theorem dX11_eat_35 : decode cX11_eat 35 = .ok (.goto 9, 3) := by decide +kernel
theorem dX11_eat_38 : decode cX11_eat 38 = .ok (.aload_n 0, 1) := by decide +kernel
theorem dX11_eat_39 : decode cX11_eat 39 = .ok (.getfield 17, 3) := by decide +kernel
theorem dX11_eat_42 : decode cX11_eat 42 = .ok (.iload_n 3, 1) := by decide +kernel
theorem dX11_eat_43 : decode cX11_eat 43 = .ok (.iaload, 1) := by decide +kernel
theorem dX11_eat_44 : decode cX11_eat 44 = .ok (.istore 5, 2) := by decide +kernel
theorem dX11_eat_46 : decode cX11_eat 46 = .ok (.aload_n 0, 1) := by decide +kernel
theorem dX11_eat_47 : decode cX11_eat 47 = .ok (.getfield 17, 3) := by decide +kernel
theorem dX11_eat_50 : decode cX11_eat 50 = .ok (.iload_n 3, 1) := by decide +kernel
theorem dX11_eat_51 : decode cX11_eat 51 = .ok (.dup2, 1) := by decide +kernel
theorem dX11_eat_52 : decode cX11_eat 52 = .ok (.iaload, 1) := by decide +kernel
theorem dX11_eat_53 : decode cX11_eat 53 = .ok (.iload 5, 2) := by decide +kernel
theorem dX11_eat_55 : decode cX11_eat 55 = .ok (.isub, 1) := by decide +kernel
theorem dX11_eat_56 : decode cX11_eat 56 = .ok (.iastore, 1) := by decide +kernel
theorem dX11_eat_57 : decode cX11_eat 57 = .ok (.aload_n 0, 1) := by decide +kernel
theorem dX11_eat_58 : decode cX11_eat 58 = .ok (.getfield 65, 3) := by decide +kernel
theorem dX11_eat_61 : decode cX11_eat 61 = .ok (.iload_n 1, 1) := by decide +kernel
theorem dX11_eat_62 : decode cX11_eat 62 = .ok (.dup2, 1) := by decide +kernel
theorem dX11_eat_63 : decode cX11_eat 63 = .ok (.iaload, 1) := by decide +kernel
theorem dX11_eat_64 : decode cX11_eat 64 = .ok (.iload 5, 2) := by decide +kernel
theorem dX11_eat_66 : decode cX11_eat 66 = .ok (.iadd, 1) := by decide +kernel
theorem dX11_eat_67 : decode cX11_eat 67 = .ok (.iastore, 1) := by decide +kernel
theorem dX11_eat_68 : decode cX11_eat 68 = .ok (.iload 5, 2) := by decide +kernel
theorem dX11_eat_70 : decode cX11_eat 70 = .ok (.iload 4, 2) := by decide +kernel
theorem dX11_eat_72 : decode cX11_eat 72 = .ok (.if_icmp .ne 24, 3) := by decide +kernel
theorem dX11_eat_75 : decode cX11_eat 75 = .ok (.aload_n 0, 1) := by decide +kernel
theorem dX11_eat_76 : decode cX11_eat 76 = .ok (.getfield 38, 3) := by decide +kernel
theorem dX11_eat_79 : decode cX11_eat 79 = .ok (.iload_n 1, 1) := by decide +kernel
theorem dX11_eat_80 : decode cX11_eat 80 = .ok (.dup2, 1) := by decide +kernel
theorem dX11_eat_81 : decode cX11_eat 81 = .ok (.iaload, 1) := by decide +kernel
theorem dX11_eat_82 : decode cX11_eat 82 = .ok (.iload_n 2, 1) := by decide +kernel
theorem dX11_eat_83 : decode cX11_eat 83 = .ok (.ifCond .eq 7, 3) := by decide +kernel
theorem dX11_eat_86 : decode cX11_eat 86 = .ok (.iconst 1, 1) := by decide +kernel
theorem dX11_eat_87 : decode cX11_eat 87 = .ok (.goto 4, 3) := by decide +kernel
theorem dX11_eat_90 : decode cX11_eat 90 = .ok (.iconst 3, 1) := by decide +kernel
theorem dX11_eat_91 : decode cX11_eat 91 = .ok (.iadd, 1) := by decide +kernel
theorem dX11_eat_92 : decode cX11_eat 92 = .ok (.iastore, 1) := by decide +kernel
theorem dX11_eat_93 : decode cX11_eat 93 = .ok (.goto 31, 3) := by decide +kernel
theorem dX11_eat_96 : decode cX11_eat 96 = .ok (.aload_n 0, 1) := by decide +kernel
theorem dX11_eat_97 : decode cX11_eat 97 = .ok (.getfield 38, 3) := by decide +kernel
theorem dX11_eat_100 : decode cX11_eat 100 = .ok (.iload_n 1, 1) := by decide +kernel
theorem dX11_eat_101 : decode cX11_eat 101 = .ok (.aload_n 0, 1) := by decide +kernel
theorem dX11_eat_102 : decode cX11_eat 102 = .ok (.getfield 38, 3) := by decide +kernel
theorem dX11_eat_105 : decode cX11_eat 105 = .ok (.iload_n 1, 1) := by decide +kernel
theorem dX11_eat_106 : decode cX11_eat 106 = .ok (.iaload, 1) := by decide +kernel
theorem dX11_eat_107 : decode cX11_eat 107 = .ok (.iconst 4, 1) := by decide +kernel
theorem dX11_eat_108 : decode cX11_eat 108 = .ok (.if_icmp .ge 7, 3) := by decide +kernel
theorem dX11_eat_111 : decode cX11_eat 111 = .ok (.iconst 0, 1) := by decide +kernel
theorem dX11_eat_112 : decode cX11_eat 112 = .ok (.goto 11, 3) := by decide +kernel
theorem dX11_eat_115 : decode cX11_eat 115 = .ok (.aload_n 0, 1) := by decide +kernel
theorem dX11_eat_116 : decode cX11_eat 116 = .ok (.getfield 38, 3) := by decide +kernel
theorem dX11_eat_119 : decode cX11_eat 119 = .ok (.iload_n 1, 1) := by decide +kernel
theorem dX11_eat_120 : decode cX11_eat 120 = .ok (.iaload, 1) := by decide +kernel
theorem dX11_eat_121 : decode cX11_eat 121 = .ok (.iconst 4, 1) := by decide +kernel
theorem dX11_eat_122 : decode cX11_eat 122 = .ok (.isub, 1) := by decide +kernel
theorem dX11_eat_123 : decode cX11_eat 123 = .ok (.iastore, 1) := by decide +kernel
theorem dX11_eat_124 : decode cX11_eat 124 = .ok (.aload_n 0, 1) := by decide +kernel
theorem dX11_eat_125 : decode cX11_eat 125 = .ok (.getfield 38, 3) := by decide +kernel
theorem dX11_eat_128 : decode cX11_eat 128 = .ok (.iload_n 1, 1) := by decide +kernel
theorem dX11_eat_129 : decode cX11_eat 129 = .ok (.aload_n 0, 1) := by decide +kernel
theorem dX11_eat_130 : decode cX11_eat 130 = .ok (.getfield 38, 3) := by decide +kernel
theorem dX11_eat_133 : decode cX11_eat 133 = .ok (.iload_n 1, 1) := by decide +kernel
theorem dX11_eat_134 : decode cX11_eat 134 = .ok (.iaload, 1) := by decide +kernel
theorem dX11_eat_135 : decode cX11_eat 135 = .ok (.sipush 700, 3) := by decide +kernel
theorem dX11_eat_138 : decode cX11_eat 138 = .ok (.if_icmp .le 9, 3) := by decide +kernel
theorem dX11_eat_141 : decode cX11_eat 141 = .ok (.sipush 700, 3) := by decide +kernel
theorem dX11_eat_144 : decode cX11_eat 144 = .ok (.goto 9, 3) := by decide +kernel
theorem dX11_eat_147 : decode cX11_eat 147 = .ok (.aload_n 0, 1) := by decide +kernel
theorem dX11_eat_148 : decode cX11_eat 148 = .ok (.getfield 38, 3) := by decide +kernel
theorem dX11_eat_151 : decode cX11_eat 151 = .ok (.iload_n 1, 1) := by decide +kernel
theorem dX11_eat_152 : decode cX11_eat 152 = .ok (.iaload, 1) := by decide +kernel
theorem dX11_eat_153 : decode cX11_eat 153 = .ok (.iastore, 1) := by decide +kernel
theorem dX11_eat_154 : decode cX11_eat 154 = .ok (.aload_n 0, 1) := by decide +kernel
theorem dX11_eat_155 : decode cX11_eat 155 = .ok (.getfield 38, 3) := by decide +kernel
theorem dX11_eat_158 : decode cX11_eat 158 = .ok (.iload_n 1, 1) := by decide +kernel
theorem dX11_eat_159 : decode cX11_eat 159 = .ok (.iaload, 1) := by decide +kernel
theorem dX11_eat_160 : decode cX11_eat 160 = .ok (.bipush 80, 2) := by decide +kernel
theorem dX11_eat_162 : decode cX11_eat 162 = .ok (.if_icmp .lt 4, 3) := by decide +kernel
theorem dX11_eat_165 : decode cX11_eat 165 = .ok (.return_, 1) := by decide +kernel
theorem dX11_eat_166 : decode cX11_eat 166 = .ok (.aload_n 0, 1) := by decide +kernel
theorem dX11_eat_167 : decode cX11_eat 167 = .ok (.getfield 35, 3) := by decide +kernel
theorem dX11_eat_170 : decode cX11_eat 170 = .ok (.iload_n 1, 1) := by decide +kernel
theorem dX11_eat_171 : decode cX11_eat 171 = .ok (.iaload, 1) := by decide +kernel
theorem dX11_eat_172 : decode cX11_eat 172 = .ok (.bipush 10, 2) := by decide +kernel
theorem dX11_eat_174 : decode cX11_eat 174 = .ok (.idiv, 1) := by decide +kernel
theorem dX11_eat_175 : decode cX11_eat 175 = .ok (.iconst 1, 1) := by decide +kernel
theorem dX11_eat_176 : decode cX11_eat 176 = .ok (.iadd, 1) := by decide +kernel
theorem dX11_eat_177 : decode cX11_eat 177 = .ok (.istore 6, 2) := by decide +kernel
theorem dX11_eat_179 : decode cX11_eat 179 = .ok (.iload 6, 2) := by decide +kernel
theorem dX11_eat_181 : decode cX11_eat 181 = .ok (.aload_n 0, 1) := by decide +kernel
theorem dX11_eat_182 : decode cX11_eat 182 = .ok (.getfield 35, 3) := by decide +kernel
theorem dX11_eat_185 : decode cX11_eat 185 = .ok (.iload_n 1, 1) := by decide +kernel
theorem dX11_eat_186 : decode cX11_eat 186 = .ok (.iaload, 1) := by decide +kernel
theorem dX11_eat_187 : decode cX11_eat 187 = .ok (.if_icmp .le 12, 3) := by decide +kernel
theorem dX11_eat_190 : decode cX11_eat 190 = .ok (.aload_n 0, 1) := by decide +kernel
theorem dX11_eat_191 : decode cX11_eat 191 = .ok (.getfield 35, 3) := by decide +kernel
theorem dX11_eat_194 : decode cX11_eat 194 = .ok (.iload_n 1, 1) := by decide +kernel
theorem dX11_eat_195 : decode cX11_eat 195 = .ok (.iaload, 1) := by decide +kernel
theorem dX11_eat_196 : decode cX11_eat 196 = .ok (.goto 5, 3) := by decide +kernel
theorem dX11_eat_199 : decode cX11_eat 199 = .ok (.iload 6, 2) := by decide +kernel
theorem dX11_eat_201 : decode cX11_eat 201 = .ok (.istore 6, 2) := by decide +kernel
theorem dX11_eat_203 : decode cX11_eat 203 = .ok (.aload_n 0, 1) := by decide +kernel
theorem dX11_eat_204 : decode cX11_eat 204 = .ok (.getfield 35, 3) := by decide +kernel
theorem dX11_eat_207 : decode cX11_eat 207 = .ok (.iload_n 1, 1) := by decide +kernel
theorem dX11_eat_208 : decode cX11_eat 208 = .ok (.dup2, 1) := by decide +kernel
theorem dX11_eat_209 : decode cX11_eat 209 = .ok (.iaload, 1) := by decide +kernel
theorem dX11_eat_210 : decode cX11_eat 210 = .ok (.iload 6, 2) := by decide +kernel
theorem dX11_eat_212 : decode cX11_eat 212 = .ok (.isub, 1) := by decide +kernel
theorem dX11_eat_213 : decode cX11_eat 213 = .ok (.iastore, 1) := by decide +kernel
theorem dX11_eat_214 : decode cX11_eat 214 = .ok (.aload_n 0, 1) := by decide +kernel
theorem dX11_eat_215 : decode cX11_eat 215 = .ok (.getfield 62, 3) := by decide +kernel
theorem dX11_eat_218 : decode cX11_eat 218 = .ok (.iload_n 1, 1) := by decide +kernel
theorem dX11_eat_219 : decode cX11_eat 219 = .ok (.dup2, 1) := by decide +kernel
theorem dX11_eat_220 : decode cX11_eat 220 = .ok (.iaload, 1) := by decide +kernel
theorem dX11_eat_221 : decode cX11_eat 221 = .ok (.iload 6, 2) := by decide +kernel
theorem dX11_eat_223 : decode cX11_eat 223 = .ok (.iadd, 1) := by decide +kernel
theorem dX11_eat_224 : decode cX11_eat 224 = .ok (.iastore, 1) := by decide +kernel
theorem dX11_eat_225 : decode cX11_eat 225 = .ok (.return_, 1) := by decide +kernel
theorem dX11_go_0 : decode cX11_go 0 = .ok (.aload_n 0, 1) := by decide +kernel
theorem dX11_go_1 : decode cX11_go 1 = .ok (.getfield 50, 3) := by decide +kernel
theorem dX11_go_4 : decode cX11_go 4 = .ok (.iload_n 1, 1) := by decide +kernel
theorem dX11_go_5 : decode cX11_go 5 = .ok (.iaload, 1) := by decide +kernel
theorem dX11_go_6 : decode cX11_go 6 = .ok (.istore_n 2, 1) := by decide +kernel
theorem dX11_go_7 : decode cX11_go 7 = .ok (.aload_n 0, 1) := by decide +kernel
theorem dX11_go_8 : decode cX11_go 8 = .ok (.getfield 113, 3) := by decide +kernel
theorem dX11_go_11 : decode cX11_go 11 = .ok (.iconst 0, 1) := by decide +kernel
theorem dX11_go_12 : decode cX11_go 12 = .ok (.aload_n 0, 1) := by decide +kernel
theorem dX11_go_13 : decode cX11_go 13 = .ok (.getfield 178, 3) := by decide +kernel
theorem dX11_go_16 : decode cX11_go 16 = .ok (.iastore, 1) := by decide +kernel
theorem dX11_go_17 : decode cX11_go 17 = .ok (.aload_n 0, 1) := by decide +kernel
theorem dX11_go_18 : decode cX11_go 18 = .ok (.getfield 113, 3) := by decide +kernel
theorem dX11_go_21 : decode cX11_go 21 = .ok (.iconst 1, 1) := by decide +kernel
theorem dX11_go_22 : decode cX11_go 22 = .ok (.aload_n 0, 1) := by decide +kernel
theorem dX11_go_23 : decode cX11_go 23 = .ok (.getfield 35, 3) := by decide +kernel
theorem dX11_go_26 : decode cX11_go 26 = .ok (.iload_n 1, 1) := by decide +kernel
theorem dX11_go_27 : decode cX11_go 27 = .ok (.iaload, 1) := by decide +kernel
theorem dX11_go_28 : decode cX11_go 28 = .ok (.iastore, 1) := by decide +kernel
theorem dX11_go_29 : decode cX11_go 29 = .ok (.aload_n 0, 1) := by decide +kernel
theorem dX11_go_30 : decode cX11_go 30 = .ok (.getfield 113, 3) := by decide +kernel
theorem dX11_go_33 : decode cX11_go 33 = .ok (.iconst 2, 1) := by decide +kernel
theorem dX11_go_34 : decode cX11_go 34 = .ok (.aload_n 0, 1) := by decide +kernel
theorem dX11_go_35 : decode cX11_go 35 = .ok (.getfield 38, 3) := by decide +kernel
theorem dX11_go_38 : decode cX11_go 38 = .ok (.iload_n 1, 1) := by decide +kernel
theorem dX11_go_39 : decode cX11_go 39 = .ok (.iaload, 1) := by decide +kernel
theorem dX11_go_40 : decode cX11_go 40 = .ok (.iastore, 1) := by decide +kernel
theorem dX11_go_41 : decode cX11_go 41 = .ok (.aload_n 0, 1) := by decide +kernel
theorem dX11_go_42 : decode cX11_go 42 = .ok (.getfield 113, 3) := by decide +kernel
theorem dX11_go_45 : decode cX11_go 45 = .ok (.iconst 3, 1) := by decide +kernel
theorem dX11_go_46 : decode cX11_go 46 = .ok (.aload_n 0, 1) := by decide +kernel
theorem dX11_go_47 : decode cX11_go 47 = .ok (.getfield 47, 3) := by decide +kernel
theorem dX11_go_50 : decode cX11_go 50 = .ok (.iload_n 1, 1) := by decide +kernel
theorem dX11_go_51 : decode cX11_go 51 = .ok (.iaload, 1) := by decide +kernel
theorem dX11_go_52 : decode cX11_go 52 = .ok (.iastore, 1) := by decide +kernel
theorem dX11_go_53 : decode cX11_go 53 = .ok (.aload_n 0, 1) := by decide +kernel
theorem dX11_go_54 : decode cX11_go 54 = .ok (.getfield 113, 3) := by decide +kernel
theorem dX11_go_57 : decode cX11_go 57 = .ok (.iconst 4, 1) := by decide +kernel
theorem dX11_go_58 : decode cX11_go 58 = .ok (.aload_n 0, 1) := by decide +kernel
theorem dX11_go_59 : decode cX11_go 59 = .ok (.getfield 17, 3) := by decide +kernel
theorem dX11_go_62 : decode cX11_go 62 = .ok (.iload_n 2, 1) := by decide +kernel
theorem dX11_go_63 : decode cX11_go 63 = .ok (.iaload, 1) := by decide +kernel
theorem dX11_go_64 : decode cX11_go 64 = .ok (.iastore, 1) := by decide +kernel
theorem dX11_go_65 : decode cX11_go 65 = .ok (.aload_n 0, 1) := by decide +kernel
theorem dX11_go_66 : decode cX11_go 66 = .ok (.getfield 113, 3) := by decide +kernel
theorem dX11_go_69 : decode cX11_go 69 = .ok (.iconst 5, 1) := by decide +kernel
theorem dX11_go_70 : decode cX11_go 70 = .ok (.aload_n 0, 1) := by decide +kernel
theorem dX11_go_71 : decode cX11_go 71 = .ok (.getfield 13, 3) := by decide +kernel
theorem dX11_go_74 : decode cX11_go 74 = .ok (.iload_n 2, 1) := by decide +kernel
theorem dX11_go_75 : decode cX11_go 75 = .ok (.iaload, 1) := by decide +kernel
theorem dX11_go_76 : decode cX11_go 76 = .ok (.iastore, 1) := by decide +kernel
theorem dX11_go_77 : decode cX11_go 77 = .ok (.aload_n 0, 1) := by decide +kernel
theorem dX11_go_78 : decode cX11_go 78 = .ok (.getfield 113, 3) := by decide +kernel
theorem dX11_go_81 : decode cX11_go 81 = .ok (.bipush 6, 2) := by decide +kernel
theorem dX11_go_83 : decode cX11_go 83 = .ok (.iload_n 2, 1) := by decide +kernel
theorem dX11_go_84 : decode cX11_go 84 = .ok (.iastore, 1) := by decide +kernel
theorem dX11_go_85 : decode cX11_go 85 = .ok (.aload_n 0, 1) := by decide +kernel
theorem dX11_go_86 : decode cX11_go 86 = .ok (.getfield 113, 3) := by decide +kernel
theorem dX11_go_89 : decode cX11_go 89 = .ok (.bipush 7, 2) := by decide +kernel
theorem dX11_go_91 : decode cX11_go 91 = .ok (.aload_n 0, 1) := by decide +kernel
theorem dX11_go_92 : decode cX11_go 92 = .ok (.iload_n 2, 1) := by decide +kernel
theorem dX11_go_93 : decode cX11_go 93 = .ok (.aload_n 0, 1) := by decide +kernel
theorem dX11_go_94 : decode cX11_go 94 = .ok (.getfield 178, 3) := by decide +kernel
theorem dX11_go_97 : decode cX11_go 97 = .ok (.invokevirtual 185, 3) := by decide +kernel
theorem dX11_go_100 : decode cX11_go 100 = .ok (.iastore, 1) := by decide +kernel
theorem dX11_go_101 : decode cX11_go 101 = .ok (.aload_n 0, 1) := by decide +kernel
theorem dX11_go_102 : decode cX11_go 102 = .ok (.getfield 113, 3) := by decide +kernel
theorem dX11_go_105 : decode cX11_go 105 = .ok (.bipush 8, 2) := by decide +kernel
theorem dX11_go_107 : decode cX11_go 107 = .ok (.aload_n 0, 1) := by decide +kernel
theorem dX11_go_108 : decode cX11_go 108 = .ok (.getfield 35, 3) := by decide +kernel
theorem dX11_go_111 : decode cX11_go 111 = .ok (.iload_n 1, 1) := by decide +kernel
theorem dX11_go_112 : decode cX11_go 112 = .ok (.iaload, 1) := by decide +kernel
theorem dX11_go_113 : decode cX11_go 113 = .ok (.aload_n 0, 1) := by decide +kernel
theorem dX11_go_114 : decode cX11_go 114 = .ok (.getfield 41, 3) := by decide +kernel
theorem dX11_go_117 : decode cX11_go 117 = .ok (.iload_n 1, 1) := by decide +kernel
theorem dX11_go_118 : decode cX11_go 118 = .ok (.iaload, 1) := by decide +kernel
theorem dX11_go_119 : decode cX11_go 119 = .ok (.imul, 1) := by decide +kernel
theorem dX11_go_120 : decode cX11_go 120 = .ok (.iastore, 1) := by decide +kernel
theorem dX11_go_121 : decode cX11_go 121 = .ok (.iconst 0, 1) := by decide +kernel
theorem dX11_go_122 : decode cX11_go 122 = .ok (.istore_n 3, 1) := by decide +kernel
theorem dX11_go_123 : decode cX11_go 123 = .ok (.iload_n 3, 1) := by decide +kernel
theorem dX11_go_124 : decode cX11_go 124 = .ok (.aload_n 0, 1) := by decide +kernel
theorem dX11_go_125 : decode cX11_go 125 = .ok (.getfield 83, 3) := by decide +kernel
theorem dX11_go_128 : decode cX11_go 128 = .ok (.iload_n 1, 1) := by decide +kernel
theorem dX11_go_129 : decode cX11_go 129 = .ok (.iaload, 1) := by decide +kernel
theorem dX11_go_130 : decode cX11_go 130 = .ok (.if_icmp .ge 18, 3) := by decide +kernel
theorem dX11_go_133 : decode cX11_go 133 = .ok (.aload_n 0, 1) := by decide +kernel
theorem dX11_go_134 : decode cX11_go 134 = .ok (.iload_n 1, 1) := by decide +kernel
theorem dX11_go_135 : decode cX11_go 135 = .ok (.iload_n 3, 1) := by decide +kernel
theorem dX11_go_136 : decode cX11_go 136 = .ok (.invokevirtual 338, 3) := by decide +kernel
theorem dX11_go_139 : decode cX11_go 139 = .ok (.ifCond .ne 9, 3) := by decide +kernel
theorem dX11_go_142 : decode cX11_go 142 = .ok (.iinc 3 1, 3) := by decide +kernel
theorem dX11_go_145 : decode cX11_go 145 = .ok (.goto (-22), 3) := by decide +kernel
theorem dX11_go_148 : decode cX11_go 148 = .ok (.iload_n 3, 1) := by decide +kernel
theorem dX11_go_149 : decode cX11_go 149 = .ok (.aload_n 0, 1) := by decide +kernel
theorem dX11_go_150 : decode cX11_go 150 = .ok (.getfield 83, 3) := by decide +kernel
theorem dX11_go_153 : decode cX11_go 153 = .ok (.iload_n 1, 1) := by decide +kernel
theorem dX11_go_154 : decode cX11_go 154 = .ok (.iaload, 1) := by decide +kernel
theorem dX11_go_155 : decode cX11_go 155 = .ok (.if_icmp .ge 17, 3) := by decide +kernel
theorem dX11_go_158 : decode cX11_go 158 = .ok (.aload_n 0, 1) := by decide +kernel
theorem dX11_go_159 : decode cX11_go 159 = .ok (.getfield 77, 3) := by decide +kernel
theorem dX11_go_162 : decode cX11_go 162 = .ok (.bipush 8, 2) := by decide +kernel
theorem dX11_go_164 : decode cX11_go 164 = .ok (.iload_n 1, 1) := by decide +kernel
theorem dX11_go_165 : decode cX11_go 165 = .ok (.imul, 1) := by decide +kernel
theorem dX11_go_166 : decode cX11_go 166 = .ok (.iload_n 3, 1) := by decide +kernel
theorem dX11_go_167 : decode cX11_go 167 = .ok (.iadd, 1) := by decide +kernel
theorem dX11_go_168 : decode cX11_go 168 = .ok (.iaload, 1) := by decide +kernel
theorem dX11_go_169 : decode cX11_go 169 = .ok (.goto 4, 3) := by decide +kernel
theorem dX11_go_172 : decode cX11_go 172 = .ok (.iconst 0, 1) := by decide +kernel
theorem dX11_go_173 : decode cX11_go 173 = .ok (.istore 4, 2) := by decide +kernel
theorem dX11_go_175 : decode cX11_go 175 = .ok (.iload 4, 2) := by decide +kernel
theorem dX11_go_177 : decode cX11_go 177 = .ok (.iconst 2, 1) := by decide +kernel
theorem dX11_go_178 : decode cX11_go 178 = .ok (.if_icmp .ne 74, 3) := by decide +kernel
theorem dX11_go_181 : decode cX11_go 181 = .ok (.aload_n 0, 1) := by decide +kernel
theorem dX11_go_182 : decode cX11_go 182 = .ok (.getfield 80, 3) := by decide +kernel
theorem dX11_go_185 : decode cX11_go 185 = .ok (.bipush 8, 2) := by decide +kernel
theorem dX11_go_187 : decode cX11_go 187 = .ok (.iload_n 1, 1) := by decide +kernel
theorem dX11_go_188 : decode cX11_go 188 = .ok (.imul, 1) := by decide +kernel
theorem dX11_go_189 : decode cX11_go 189 = .ok (.iload_n 3, 1) := by decide +kernel
theorem dX11_go_190 : decode cX11_go 190 = .ok (.iadd, 1) := by decide +kernel
theorem dX11_go_191 : decode cX11_go 191 = .ok (.iaload, 1) := by decide +kernel
theorem dX11_go_192 : decode cX11_go 192 = .ok (.istore 5, 2) := by decide +kernel
theorem dX11_go_194 : decode cX11_go 194 = .ok (.iload 5, 2) := by decide +kernel
theorem dX11_go_196 : decode cX11_go 196 = .ok (.aload_n 0, 1) := by decide +kernel
theorem dX11_go_197 : decode cX11_go 197 = .ok (.getfield 35, 3) := by decide +kernel
theorem dX11_go_200 : decode cX11_go 200 = .ok (.iload_n 1, 1) := by decide +kernel
theorem dX11_go_201 : decode cX11_go 201 = .ok (.iaload, 1) := by decide +kernel
theorem dX11_go_202 : decode cX11_go 202 = .ok (.if_icmp .le 12, 3) := by decide +kernel
theorem dX11_go_205 : decode cX11_go 205 = .ok (.aload_n 0, 1) := by decide +kernel
theorem dX11_go_206 : decode cX11_go 206 = .ok (.getfield 35, 3) := by decide +kernel
theorem dX11_go_209 : decode cX11_go 209 = .ok (.iload_n 1, 1) := by decide +kernel
theorem dX11_go_210 : decode cX11_go 210 = .ok (.iaload, 1) := by decide +kernel
theorem dX11_go_211 : decode cX11_go 211 = .ok (.goto 5, 3) := by decide +kernel
theorem dX11_go_214 : decode cX11_go 214 = .ok (.iload 5, 2) := by decide +kernel
theorem dX11_go_216 : decode cX11_go 216 = .ok (.istore 5, 2) := by decide +kernel
theorem dX11_go_218 : decode cX11_go 218 = .ok (.aload_n 0, 1) := by decide +kernel
theorem dX11_go_219 : decode cX11_go 219 = .ok (.iload_n 1, 1) := by decide +kernel
theorem dX11_go_220 : decode cX11_go 220 = .ok (.iload 5, 2) := by decide +kernel
theorem dX11_go_222 : decode cX11_go 222 = .ok (.aload_n 0, 1) := by decide +kernel
theorem dX11_go_223 : decode cX11_go 223 = .ok (.getfield 113, 3) := by decide +kernel
theorem dX11_go_226 : decode cX11_go 226 = .ok (.bipush 7, 2) := by decide +kernel
theorem dX11_go_228 : decode cX11_go 228 = .ok (.iaload, 1) := by decide +kernel
theorem dX11_go_229 : decode cX11_go 229 = .ok (.sipush 200, 3) := by decide +kernel
theorem dX11_go_232 : decode cX11_go 232 = .ok (.invokevirtual 334, 3) := by decide +kernel
theorem dX11_go_235 : decode cX11_go 235 = .ok (.aload_n 0, 1) := by decide +kernel
theorem dX11_go_236 : decode cX11_go 236 = .ok (.getfield 35, 3) := by decide +kernel
theorem dX11_go_239 : decode cX11_go 239 = .ok (.iload_n 1, 1) := by decide +kernel
theorem dX11_go_240 : decode cX11_go 240 = .ok (.iaload, 1) := by decide +kernel
theorem dX11_go_241 : decode cX11_go 241 = .ok (.ifCond .le 8, 3) := by decide +kernel
theorem dX11_go_244 : decode cX11_go 244 = .ok (.aload_n 0, 1) := by decide +kernel
theorem dX11_go_245 : decode cX11_go 245 = .ok (.iload_n 1, 1) := by decide +kernel
theorem dX11_go_246 : decode cX11_go 246 = .ok (.invokevirtual 342, 3) := by decide +kernel
theorem dX11_go_249 : decode cX11_go 249 = .ok (.goto 22, 3) := by decide +kernel
theorem dX11_go_252 : decode cX11_go 252 = .ok (.iload 4, 2) := by decide +kernel
theorem dX11_go_254 : decode cX11_go 254 = .ok (.iconst 1, 1) := by decide +kernel
theorem dX11_go_255 : decode cX11_go 255 = .ok (.if_icmp .ne 11, 3) := by decide +kernel
theorem dX11_go_258 : decode cX11_go 258 = .ok (.aload_n 0, 1) := by decide +kernel
theorem dX11_go_259 : decode cX11_go 259 = .ok (.iload_n 1, 1) := by decide +kernel
theorem dX11_go_260 : decode cX11_go 260 = .ok (.invokevirtual 342, 3) := by decide +kernel
theorem dX11_go_263 : decode cX11_go 263 = .ok (.goto 8, 3) := by decide +kernel
theorem dX11_go_266 : decode cX11_go 266 = .ok (.aload_n 0, 1) := by decide +kernel
theorem dX11_go_267 : decode cX11_go 267 = .ok (.iload_n 1, 1) := by decide +kernel
theorem dX11_go_268 : decode cX11_go 268 = .ok (.invokevirtual 345, 3) := by decide +kernel
theorem dX11_go_271 : decode cX11_go 271 = .ok (.aload_n 0, 1) := by decide +kernel
theorem dX11_go_272 : decode cX11_go 272 = .ok (.getfield 35, 3) := by decide +kernel
theorem dX11_go_275 : decode cX11_go 275 = .ok (.iload_n 1, 1) := by decide +kernel
theorem dX11_go_276 : decode cX11_go 276 = .ok (.iaload, 1) := by decide +kernel
theorem dX11_go_277 : decode cX11_go 277 = .ok (.ifCond .le 18, 3) := by decide +kernel
theorem dX11_go_280 : decode cX11_go 280 = .ok (.aload_n 0, 1) := by decide +kernel
theorem dX11_go_281 : decode cX11_go 281 = .ok (.iload_n 1, 1) := by decide +kernel
theorem dX11_go_282 : decode cX11_go 282 = .ok (.iload 4, 2) := by decide +kernel
theorem dX11_go_284 : decode cX11_go 284 = .ok (.ifCond .ne 7, 3) := by decide +kernel
theorem dX11_go_287 : decode cX11_go 287 = .ok (.iconst 1, 1) := by decide +kernel
theorem dX11_go_288 : decode cX11_go 288 = .ok (.goto 4, 3) := by decide +kernel
theorem dX11_go_291 : decode cX11_go 291 = .ok (.iconst 0, 1) := by decide +kernel
theorem dX11_go_292 : decode cX11_go 292 = .ok (.invokevirtual 348, 3) := by decide +kernel
theorem dX11_go_295 : decode cX11_go 295 = .ok (.return_, 1) := by decide +kernel
theorem dX11_days_0 : decode cX11_days 0 = .ok (.iload_n 1, 1) := by decide +kernel
theorem dX11_days_1 : decode cX11_days 1 = .ok (.ifCond .lt 10, 3) := by decide +kernel
theorem dX11_days_4 : decode cX11_days 4 = .ok (.iload_n 1, 1) := by decide +kernel
theorem dX11_days_5 : decode cX11_days 5 = .ok (.sipush 400, 3) := by decide +kernel
theorem dX11_days_8 : decode cX11_days 8 = .ok (.if_icmp .le 5, 3) := by decide +kernel
theorem dX11_days_11 : decode cX11_days 11 = .ok (.iconst (-1), 1) := by decide +kernel
theorem dX11_days_12 : decode cX11_days 12 = .ok (.ireturn, 1) := by decide +kernel
theorem dX11_days_13 : decode cX11_days 13 = .ok (.iconst 0, 1) := by decide +kernel
theorem dX11_days_14 : decode cX11_days 14 = .ok (.istore_n 2, 1) := by decide +kernel
theorem dX11_days_15 : decode cX11_days 15 = .ok (.iload_n 2, 1) := by decide +kernel
theorem dX11_days_16 : decode cX11_days 16 = .ok (.iload_n 1, 1) := by decide +kernel
theorem dX11_days_17 : decode cX11_days 17 = .ok (.if_icmp .ge 137, 3) := by decide +kernel
theorem dX11_days_20 : decode cX11_days 20 = .ok (.aload_n 0, 1) := by decide +kernel
theorem dX11_days_21 : decode cX11_days 21 = .ok (.getfield 178, 3) := by decide +kernel
theorem dX11_days_24 : decode cX11_days 24 = .ok (.ldc 174, 2) := by decide +kernel
theorem dX11_days_26 : decode cX11_days 26 = .ok (.if_icmp .ge 128, 3) := by decide +kernel
theorem dX11_days_29 : decode cX11_days 29 = .ok (.iconst 0, 1) := by decide +kernel
theorem dX11_days_30 : decode cX11_days 30 = .ok (.istore_n 3, 1) := by decide +kernel
theorem dX11_days_31 : decode cX11_days 31 = .ok (.iload_n 3, 1) := by decide +kernel
theorem dX11_days_32 : decode cX11_days 32 = .ok (.aload_n 0, 1) := by decide +kernel
theorem dX11_days_33 : decode cX11_days 33 = .ok (.invokevirtual 170, 3) := by decide +kernel
theorem dX11_days_36 : decode cX11_days 36 = .ok (.if_icmp .ge 59, 3) := by decide +kernel
theorem dX11_days_39 : decode cX11_days 39 = .ok (.aload_n 0, 1) := by decide +kernel
theorem dX11_days_40 : decode cX11_days 40 = .ok (.getfield 17, 3) := by decide +kernel
theorem dX11_days_43 : decode cX11_days 43 = .ok (.iload_n 3, 1) := by decide +kernel
theorem dX11_days_44 : decode cX11_days 44 = .ok (.aload_n 0, 1) := by decide +kernel
theorem dX11_days_45 : decode cX11_days 45 = .ok (.getfield 17, 3) := by decide +kernel
theorem dX11_days_48 : decode cX11_days 48 = .ok (.iload_n 3, 1) := by decide +kernel
theorem dX11_days_49 : decode cX11_days 49 = .ok (.iaload, 1) := by decide +kernel
theorem dX11_days_50 : decode cX11_days 50 = .ok (.aload_n 0, 1) := by decide +kernel
theorem dX11_days_51 : decode cX11_days 51 = .ok (.getfield 20, 3) := by decide +kernel
theorem dX11_days_54 : decode cX11_days 54 = .ok (.iload_n 3, 1) := by decide +kernel
theorem dX11_days_55 : decode cX11_days 55 = .ok (.iaload, 1) := by decide +kernel
theorem dX11_days_56 : decode cX11_days 56 = .ok (.iadd, 1) := by decide +kernel
theorem dX11_days_57 : decode cX11_days 57 = .ok (.aload_n 0, 1) := by decide +kernel
theorem dX11_days_58 : decode cX11_days 58 = .ok (.getfield 23, 3) := by decide +kernel
theorem dX11_days_61 : decode cX11_days 61 = .ok (.iload_n 3, 1) := by decide +kernel
theorem dX11_days_62 : decode cX11_days 62 = .ok (.iaload, 1) := by decide +kernel
theorem dX11_days_63 : decode cX11_days 63 = .ok (.if_icmp .le 12, 3) := by decide +kernel
theorem dX11_days_66 : decode cX11_days 66 = .ok (.aload_n 0, 1) := by decide +kernel
theorem dX11_days_67 : decode cX11_days 67 = .ok (.getfield 23, 3) := by decide +kernel
theorem dX11_days_70 : decode cX11_days 70 = .ok (.iload_n 3, 1) := by decide +kernel
theorem dX11_days_71 : decode cX11_days 71 = .ok (.iaload, 1) := by decide +kernel
theorem dX11_days_72 : decode cX11_days 72 = .ok (.goto 16, 3) := by decide +kernel
theorem dX11_days_75 : decode cX11_days 75 = .ok (.aload_n 0, 1) := by decide +kernel
theorem dX11_days_76 : decode cX11_days 76 = .ok (.getfield 17, 3) := by decide +kernel
theorem dX11_days_79 : decode cX11_days 79 = .ok (.iload_n 3, 1) := by decide +kernel
theorem dX11_days_80 : decode cX11_days 80 = .ok (.iaload, 1) := by decide +kernel
theorem dX11_days_81 : decode cX11_days 81 = .ok (.aload_n 0, 1) := by decide +kernel
theorem dX11_days_82 : decode cX11_days 82 = .ok (.getfield 20, 3) := by decide +kernel
theorem dX11_days_85 : decode cX11_days 85 = .ok (.iload_n 3, 1) := by decide +kernel
theorem dX11_days_86 : decode cX11_days 86 = .ok (.iaload, 1) := by decide +kernel
theorem dX11_days_87 : decode cX11_days 87 = .ok (.iadd, 1) := by decide +kernel
theorem dX11_days_88 : decode cX11_days 88 = .ok (.iastore, 1) := by decide +kernel
theorem dX11_days_89 : decode cX11_days 89 = .ok (.iinc 3 1, 3) := by decide +kernel
theorem dX11_days_92 : decode cX11_days 92 = .ok (.goto (-61), 3) := by decide +kernel
theorem dX11_days_95 : decode cX11_days 95 = .ok (.iconst 0, 1) := by decide +kernel
theorem dX11_days_96 : decode cX11_days 96 = .ok (.istore_n 3, 1) := by decide +kernel
theorem dX11_days_97 : decode cX11_days 97 = .ok (.iload_n 3, 1) := by decide +kernel
theorem dX11_days_98 : decode cX11_days 98 = .ok (.aload_n 0, 1) := by decide +kernel
theorem dX11_days_99 : decode cX11_days 99 = .ok (.getfield 160, 3) := by decide +kernel
theorem dX11_days_102 : decode cX11_days 102 = .ok (.if_icmp .ge 36, 3) := by decide +kernel
theorem dX11_days_105 : decode cX11_days 105 = .ok (.aload_n 0, 1) := by decide +kernel
theorem dX11_days_106 : decode cX11_days 106 = .ok (.getfield 44, 3) := by decide +kernel
theorem dX11_days_109 : decode cX11_days 109 = .ok (.iload_n 3, 1) := by decide +kernel
theorem dX11_days_110 : decode cX11_days 110 = .ok (.iaload, 1) := by decide +kernel
theorem dX11_days_111 : decode cX11_days 111 = .ok (.aload_n 0, 1) := by decide +kernel
theorem dX11_days_112 : decode cX11_days 112 = .ok (.getfield 178, 3) := by decide +kernel
theorem dX11_days_115 : decode cX11_days 115 = .ok (.if_icmp .gt 17, 3) := by decide +kernel
theorem dX11_days_118 : decode cX11_days 118 = .ok (.aload_n 0, 1) := by decide +kernel
theorem dX11_days_119 : decode cX11_days 119 = .ok (.getfield 35, 3) := by decide +kernel
theorem dX11_days_122 : decode cX11_days 122 = .ok (.iload_n 3, 1) := by decide +kernel
theorem dX11_days_123 : decode cX11_days 123 = .ok (.iaload, 1) := by decide +kernel
theorem dX11_days_124 : decode cX11_days 124 = .ok (.ifCond .le 8, 3) := by decide +kernel
theorem dX11_days_127 : decode cX11_days 127 = .ok (.aload_n 0, 1) := by decide +kernel
theorem dX11_days_128 : decode cX11_days 128 = .ok (.iload_n 3, 1) := by decide +kernel
theorem dX11_days_129 : decode cX11_days 129 = .ok (.invokevirtual 352, 3) := by decide +kernel
theorem dX11_days_132 : decode cX11_days 132 = .ok (.iinc 3 1, 3) := by decide +kernel
theorem dX11_days_135 : decode cX11_days 135 = .ok (.goto (-38), 3) := by decide +kernel
theorem dX11_days_138 : decode cX11_days 138 = .ok (.aload_n 0, 1) := by decide +kernel
theorem dX11_days_139 : decode cX11_days 139 = .ok (.dup, 1) := by decide +kernel
theorem dX11_days_140 : decode cX11_days 140 = .ok (.getfield 178, 3) := by decide +kernel
theorem dX11_days_143 : decode cX11_days 143 = .ok (.iconst 1, 1) := by decide +kernel
theorem dX11_days_144 : decode cX11_days 144 = .ok (.iadd, 1) := by decide +kernel
theorem dX11_days_145 : decode cX11_days 145 = .ok (.putfield 178, 3) := by decide +kernel
theorem dX11_days_148 : decode cX11_days 148 = .ok (.iinc 2 1, 3) := by decide +kernel
theorem dX11_days_151 : decode cX11_days 151 = .ok (.goto (-136), 3) := by decide +kernel
theorem dX11_days_154 : decode cX11_days 154 = .ok (.iload_n 2, 1) := by decide +kernel
theorem dX11_days_155 : decode cX11_days 155 = .ok (.ireturn, 1) := by decide +kernel
theorem dX11_cell_0 : decode cX11_cell 0 = .ok (.iload_n 0, 1) := by decide +kernel
theorem dX11_cell_1 : decode cX11_cell 1 = .ok (.bipush 10, 2) := by decide +kernel
theorem dX11_cell_3 : decode cX11_cell 3 = .ok (.imul, 1) := by decide +kernel
theorem dX11_cell_4 : decode cX11_cell 4 = .ok (.iload_n 1, 1) := by decide +kernel
theorem dX11_cell_5 : decode cX11_cell 5 = .ok (.iadd, 1) := by decide +kernel
theorem dX11_cell_6 : decode cX11_cell 6 = .ok (.sipush 400, 3) := by decide +kernel
theorem dX11_cell_9 : decode cX11_cell 9 = .ok (.imul, 1) := by decide +kernel
theorem dX11_cell_10 : decode cX11_cell 10 = .ok (.iload_n 2, 1) := by decide +kernel
theorem dX11_cell_11 : decode cX11_cell 11 = .ok (.iadd, 1) := by decide +kernel
theorem dX11_cell_12 : decode cX11_cell 12 = .ok (.ireturn, 1) := by decide +kernel
theorem dX11_fill_0 : decode cX11_fill 0 = .ok (.aload_n 0, 1) := by decide +kernel
theorem dX11_fill_1 : decode cX11_fill 1 = .ok (.iload_n 1, 1) := by decide +kernel
theorem dX11_fill_2 : decode cX11_fill 2 = .ok (.invokevirtual 189, 3) := by decide +kernel
theorem dX11_fill_5 : decode cX11_fill 5 = .ok (.ifCond .eq 23, 3) := by decide +kernel
theorem dX11_fill_8 : decode cX11_fill 8 = .ok (.iload_n 2, 1) := by decide +kernel
theorem dX11_fill_9 : decode cX11_fill 9 = .ok (.iconst 1, 1) := by decide +kernel
theorem dX11_fill_10 : decode cX11_fill 10 = .ok (.if_icmp .lt 18, 3) := by decide +kernel
theorem dX11_fill_13 : decode cX11_fill 13 = .ok (.iload_n 2, 1) := by decide +kernel
theorem dX11_fill_14 : decode cX11_fill 14 = .ok (.bipush 60, 2) := by decide +kernel
theorem dX11_fill_16 : decode cX11_fill 16 = .ok (.if_icmp .gt 12, 3) := by decide +kernel
theorem dX11_fill_19 : decode cX11_fill 19 = .ok (.aload_n 0, 1) := by decide +kernel
theorem dX11_fill_20 : decode cX11_fill 20 = .ok (.getfield 35, 3) := by decide +kernel
theorem dX11_fill_23 : decode cX11_fill 23 = .ok (.iload_n 1, 1) := by decide +kernel
theorem dX11_fill_24 : decode cX11_fill 24 = .ok (.iaload, 1) := by decide +kernel
theorem dX11_fill_25 : decode cX11_fill 25 = .ok (.ifCond .ne 5, 3) := by decide +kernel
theorem dX11_fill_28 : decode cX11_fill 28 = .ok (.iconst 0, 1) := by decide +kernel
theorem dX11_fill_29 : decode cX11_fill 29 = .ok (.ireturn, 1) := by decide +kernel
theorem dX11_fill_30 : decode cX11_fill 30 = .ok (.iconst 0, 1) := by decide +kernel
theorem dX11_fill_31 : decode cX11_fill 31 = .ok (.istore_n 3, 1) := by decide +kernel
theorem dX11_fill_32 : decode cX11_fill 32 = .ok (.iload_n 3, 1) := by decide +kernel
theorem dX11_fill_33 : decode cX11_fill 33 = .ok (.iload_n 2, 1) := by decide +kernel
theorem dX11_fill_34 : decode cX11_fill 34 = .ok (.if_icmp .gt 352, 3) := by decide +kernel
theorem dX11_fill_37 : decode cX11_fill 37 = .ok (.iconst 0, 1) := by decide +kernel
theorem dX11_fill_38 : decode cX11_fill 38 = .ok (.istore 4, 2) := by decide +kernel
theorem dX11_fill_40 : decode cX11_fill 40 = .ok (.iload 4, 2) := by decide +kernel
theorem dX11_fill_42 : decode cX11_fill 42 = .ok (.aload_n 0, 1) := by decide +kernel
theorem dX11_fill_43 : decode cX11_fill 43 = .ok (.invokevirtual 170, 3) := by decide +kernel
theorem dX11_fill_46 : decode cX11_fill 46 = .ok (.if_icmp .ge 334, 3) := by decide +kernel
theorem dX11_fill_49 : decode cX11_fill 49 = .ok (.iconst 0, 1) := by decide +kernel
theorem dX11_fill_50 : decode cX11_fill 50 = .ok (.istore 5, 2) := by decide +kernel
theorem dX11_fill_52 : decode cX11_fill 52 = .ok (.iload 5, 2) := by decide +kernel
theorem dX11_fill_54 : decode cX11_fill 54 = .ok (.sipush 400, 3) := by decide +kernel
theorem dX11_fill_57 : decode cX11_fill 57 = .ok (.if_icmp .ge 317, 3) := by decide +kernel
theorem dX11_fill_60 : decode cX11_fill 60 = .ok (.iload_n 3, 1) := by decide +kernel
theorem dX11_fill_61 : decode cX11_fill 61 = .ok (.iload 4, 2) := by decide +kernel
theorem dX11_fill_63 : decode cX11_fill 63 = .ok (.iload 5, 2) := by decide +kernel
theorem dX11_fill_65 : decode cX11_fill 65 = .ok (.invokestatic 355, 3) := by decide +kernel
theorem dX11_fill_68 : decode cX11_fill 68 = .ok (.istore 6, 2) := by decide +kernel
theorem dX11_fill_70 : decode cX11_fill 70 = .ok (.aload_n 0, 1) := by decide +kernel
theorem dX11_fill_71 : decode cX11_fill 71 = .ok (.getfield 117, 3) := by decide +kernel
theorem dX11_fill_74 : decode cX11_fill 74 = .ok (.iload 6, 2) := by decide +kernel
theorem dX11_fill_76 : decode cX11_fill 76 = .ok (.ldc_w 359, 3) := by decide +kernel
theorem dX11_fill_79 : decode cX11_fill 79 = .ok (.iastore, 1) := by decide +kernel
theorem dX11_fill_80 : decode cX11_fill 80 = .ok (.iload_n 3, 1) := by decide +kernel
theorem dX11_fill_81 : decode cX11_fill 81 = .ok (.ifCond .ne 6, 3) := by decide +kernel
theorem dX11_fill_84 : decode cX11_fill 84 = .ok (.goto 284, 3) := by decide +kernel
theorem dX11_fill_87 : decode cX11_fill 87 = .ok (.aload_n 0, 1) := by decide +kernel
theorem dX11_fill_88 : decode cX11_fill 88 = .ok (.getfield 13, 3) := by decide +kernel
theorem dX11_fill_91 : decode cX11_fill 91 = .ok (.iload 4, 2) := by decide +kernel
theorem dX11_fill_93 : decode cX11_fill 93 = .ok (.iaload, 1) := by decide +kernel
theorem dX11_fill_94 : decode cX11_fill 94 = .ok (.istore 7, 2) := by decide +kernel
theorem dX11_fill_96 : decode cX11_fill 96 = .ok (.iload 5, 2) := by decide +kernel
theorem dX11_fill_98 : decode cX11_fill 98 = .ok (.iload 7, 2) := by decide +kernel
theorem dX11_fill_100 : decode cX11_fill 100 = .ok (.iadd, 1) := by decide +kernel
theorem dX11_fill_101 : decode cX11_fill 101 = .ok (.bipush 60, 2) := by decide +kernel
theorem dX11_fill_103 : decode cX11_fill 103 = .ok (.if_icmp .gt 123, 3) := by decide +kernel
theorem dX11_fill_106 : decode cX11_fill 106 = .ok (.iload_n 3, 1) := by decide +kernel
theorem dX11_fill_107 : decode cX11_fill 107 = .ok (.iconst 1, 1) := by decide +kernel
theorem dX11_fill_108 : decode cX11_fill 108 = .ok (.isub, 1) := by decide +kernel
theorem dX11_fill_109 : decode cX11_fill 109 = .ok (.iload 4, 2) := by decide +kernel
theorem dX11_fill_111 : decode cX11_fill 111 = .ok (.iconst 1, 1) := by decide +kernel
theorem dX11_fill_112 : decode cX11_fill 112 = .ok (.iadd, 1) := by decide +kernel
theorem dX11_fill_113 : decode cX11_fill 113 = .ok (.iload 5, 2) := by decide +kernel
theorem dX11_fill_115 : decode cX11_fill 115 = .ok (.iload 7, 2) := by decide +kernel
theorem dX11_fill_117 : decode cX11_fill 117 = .ok (.iadd, 1) := by decide +kernel
theorem dX11_fill_118 : decode cX11_fill 118 = .ok (.invokestatic 355, 3) := by decide +kernel
theorem dX11_fill_121 : decode cX11_fill 121 = .ok (.istore 8, 2) := by decide +kernel
theorem dX11_fill_123 : decode cX11_fill 123 = .ok (.iload 4, 2) := by decide +kernel
theorem dX11_fill_125 : decode cX11_fill 125 = .ok (.iconst 1, 1) := by decide +kernel
theorem dX11_fill_126 : decode cX11_fill 126 = .ok (.iadd, 1) := by decide +kernel
theorem dX11_fill_127 : decode cX11_fill 127 = .ok (.aload_n 0, 1) := by decide +kernel
theorem dX11_fill_128 : decode cX11_fill 128 = .ok (.invokevirtual 170, 3) := by decide +kernel
theorem dX11_fill_131 : decode cX11_fill 131 = .ok (.if_icmp .ne 7, 3) := by decide +kernel
theorem dX11_fill_134 : decode cX11_fill 134 = .ok (.iconst 1, 1) := by decide +kernel
theorem dX11_fill_135 : decode cX11_fill 135 = .ok (.goto 4, 3) := by decide +kernel
theorem dX11_fill_138 : decode cX11_fill 138 = .ok (.iconst 0, 1) := by decide +kernel
theorem dX11_fill_139 : decode cX11_fill 139 = .ok (.istore 9, 2) := by decide +kernel
theorem dX11_fill_141 : decode cX11_fill 141 = .ok (.iload 9, 2) := by decide +kernel
theorem dX11_fill_143 : decode cX11_fill 143 = .ok (.ifCond .ne 16, 3) := by decide +kernel
theorem dX11_fill_146 : decode cX11_fill 146 = .ok (.aload_n 0, 1) := by decide +kernel
theorem dX11_fill_147 : decode cX11_fill 147 = .ok (.getfield 117, 3) := by decide +kernel
theorem dX11_fill_150 : decode cX11_fill 150 = .ok (.iload 8, 2) := by decide +kernel
theorem dX11_fill_152 : decode cX11_fill 152 = .ok (.iaload, 1) := by decide +kernel
theorem dX11_fill_153 : decode cX11_fill 153 = .ok (.ldc_w 359, 3) := by decide +kernel
theorem dX11_fill_156 : decode cX11_fill 156 = .ok (.if_icmp .eq 70, 3) := by decide +kernel
theorem dX11_fill_159 : decode cX11_fill 159 = .ok (.aload_n 0, 1) := by decide +kernel
theorem dX11_fill_160 : decode cX11_fill 160 = .ok (.getfield 117, 3) := by decide +kernel
theorem dX11_fill_163 : decode cX11_fill 163 = .ok (.iload 6, 2) := by decide +kernel
theorem dX11_fill_165 : decode cX11_fill 165 = .ok (.iload 9, 2) := by decide +kernel
theorem dX11_fill_167 : decode cX11_fill 167 = .ok (.ifCond .eq 11, 3) := by decide +kernel
theorem dX11_fill_170 : decode cX11_fill 170 = .ok (.iload 7, 2) := by decide +kernel
theorem dX11_fill_172 : decode cX11_fill 172 = .ok (.iconst 5, 1) := by decide +kernel
theorem dX11_fill_173 : decode cX11_fill 173 = .ok (.idiv, 1) := by decide +kernel
theorem dX11_fill_174 : decode cX11_fill 174 = .ok (.ineg, 1) := by decide +kernel
theorem dX11_fill_175 : decode cX11_fill 175 = .ok (.goto 17, 3) := by decide +kernel
theorem dX11_fill_178 : decode cX11_fill 178 = .ok (.iconst 1, 1) := by decide +kernel
theorem dX11_fill_179 : decode cX11_fill 179 = .ok (.iload 7, 2) := by decide +kernel
theorem dX11_fill_181 : decode cX11_fill 181 = .ok (.iconst 5, 1) := by decide +kernel
theorem dX11_fill_182 : decode cX11_fill 182 = .ok (.idiv, 1) := by decide +kernel
theorem dX11_fill_183 : decode cX11_fill 183 = .ok (.isub, 1) := by decide +kernel
theorem dX11_fill_184 : decode cX11_fill 184 = .ok (.aload_n 0, 1) := by decide +kernel
theorem dX11_fill_185 : decode cX11_fill 185 = .ok (.getfield 117, 3) := by decide +kernel
theorem dX11_fill_188 : decode cX11_fill 188 = .ok (.iload 8, 2) := by decide +kernel
theorem dX11_fill_190 : decode cX11_fill 190 = .ok (.iaload, 1) := by decide +kernel
theorem dX11_fill_191 : decode cX11_fill 191 = .ok (.iadd, 1) := by decide +kernel
theorem dX11_fill_192 : decode cX11_fill 192 = .ok (.iastore, 1) := by decide +kernel
theorem dX11_fill_193 : decode cX11_fill 193 = .ok (.aload_n 0, 1) := by decide +kernel
theorem dX11_fill_194 : decode cX11_fill 194 = .ok (.getfield 120, 3) := by decide +kernel
theorem dX11_fill_197 : decode cX11_fill 197 = .ok (.iload 6, 2) := by decide +kernel
theorem dX11_fill_199 : decode cX11_fill 199 = .ok (.iload 9, 2) := by decide +kernel
theorem dX11_fill_201 : decode cX11_fill 201 = .ok (.ifCond .eq 7, 3) := by decide +kernel
theorem dX11_fill_204 : decode cX11_fill 204 = .ok (.iconst 1, 1) := by decide +kernel
theorem dX11_fill_205 : decode cX11_fill 205 = .ok (.goto 12, 3) := by decide +kernel
theorem dX11_fill_208 : decode cX11_fill 208 = .ok (.iconst 1, 1) := by decide +kernel
theorem dX11_fill_209 : decode cX11_fill 209 = .ok (.aload_n 0, 1) := by decide +kernel
theorem dX11_fill_210 : decode cX11_fill 210 = .ok (.getfield 120, 3) := by decide +kernel
theorem dX11_fill_213 : decode cX11_fill 213 = .ok (.iload 8, 2) := by decide +kernel
theorem dX11_fill_215 : decode cX11_fill 215 = .ok (.iaload, 1) := by decide +kernel
theorem dX11_fill_216 : decode cX11_fill 216 = .ok (.iadd, 1) := by decide +kernel
theorem dX11_fill_217 : decode cX11_fill 217 = .ok (.iastore, 1) := by decide +kernel
theorem dX11_fill_218 : decode cX11_fill 218 = .ok (.aload_n 0, 1) := by decide +kernel
theorem dX11_fill_219 : decode cX11_fill 219 = .ok (.getfield 123, 3) := by decide +kernel
theorem dX11_fill_222 : decode cX11_fill 222 = .ok (.iload 6, 2) := by decide +kernel
theorem dX11_fill_224 : decode cX11_fill 224 = .ok (.iconst 1, 1) := by decide +kernel
theorem dX11_fill_225 : decode cX11_fill 225 = .ok (.bastore, 1) := by decide +kernel
theorem dX11_fill_226 : decode cX11_fill 226 = .ok (.iload_n 3, 1) := by decide +kernel
theorem dX11_fill_227 : decode cX11_fill 227 = .ok (.iconst 1, 1) := by decide +kernel
theorem dX11_fill_228 : decode cX11_fill 228 = .ok (.isub, 1) := by decide +kernel
theorem dX11_fill_229 : decode cX11_fill 229 = .ok (.iload 4, 2) := by decide +kernel
theorem dX11_fill_231 : decode cX11_fill 231 = .ok (.iload 5, 2) := by decide +kernel
theorem dX11_fill_233 : decode cX11_fill 233 = .ok (.bipush 15, 2) := by decide +kernel
theorem dX11_fill_235 : decode cX11_fill 235 = .ok (.if_icmp .ge 7, 3) := by decide +kernel
theorem dX11_fill_238 : decode cX11_fill 238 = .ok (.iconst 0, 1) := by decide +kernel
theorem dX11_fill_239 : decode cX11_fill 239 = .ok (.goto 8, 3) := by decide +kernel
theorem dX11_fill_242 : decode cX11_fill 242 = .ok (.iload 5, 2) := by decide +kernel
theorem dX11_fill_244 : decode cX11_fill 244 = .ok (.bipush 15, 2) := by decide +kernel
theorem dX11_fill_246 : decode cX11_fill 246 = .ok (.isub, 1) := by decide +kernel
theorem dX11_fill_247 : decode cX11_fill 247 = .ok (.invokestatic 355, 3) := by decide +kernel
theorem dX11_fill_250 : decode cX11_fill 250 = .ok (.istore 8, 2) := by decide +kernel
theorem dX11_fill_252 : decode cX11_fill 252 = .ok (.aload_n 0, 1) := by decide +kernel
theorem dX11_fill_253 : decode cX11_fill 253 = .ok (.getfield 117, 3) := by decide +kernel
theorem dX11_fill_256 : decode cX11_fill 256 = .ok (.iload 8, 2) := by decide +kernel
theorem dX11_fill_258 : decode cX11_fill 258 = .ok (.iaload, 1) := by decide +kernel
theorem dX11_fill_259 : decode cX11_fill 259 = .ok (.ldc_w 359, 3) := by decide +kernel
theorem dX11_fill_262 : decode cX11_fill 262 = .ok (.if_icmp .ne 6, 3) := by decide +kernel
theorem dX11_fill_265 : decode cX11_fill 265 = .ok (.goto 103, 3) := by decide +kernel
theorem dX11_fill_268 : decode cX11_fill 268 = .ok (.iconst 3, 1) := by decide +kernel
theorem dX11_fill_269 : decode cX11_fill 269 = .ok (.aload_n 0, 1) := by decide +kernel
theorem dX11_fill_270 : decode cX11_fill 270 = .ok (.getfield 117, 3) := by decide +kernel
theorem dX11_fill_273 : decode cX11_fill 273 = .ok (.iload 8, 2) := by decide +kernel
theorem dX11_fill_275 : decode cX11_fill 275 = .ok (.iaload, 1) := by decide +kernel
theorem dX11_fill_276 : decode cX11_fill 276 = .ok (.iadd, 1) := by decide +kernel
theorem dX11_fill_277 : decode cX11_fill 277 = .ok (.istore 9, 2) := by decide +kernel
theorem dX11_fill_279 : decode cX11_fill 279 = .ok (.iconst 1, 1) := by decide +kernel
theorem dX11_fill_280 : decode cX11_fill 280 = .ok (.aload_n 0, 1) := by decide +kernel
theorem dX11_fill_281 : decode cX11_fill 281 = .ok (.getfield 120, 3) := by decide +kernel
theorem dX11_fill_284 : decode cX11_fill 284 = .ok (.iload 8, 2) := by decide +kernel
theorem dX11_fill_286 : decode cX11_fill 286 = .ok (.iaload, 1) := by decide +kernel
theorem dX11_fill_287 : decode cX11_fill 287 = .ok (.iadd, 1) := by decide +kernel
theorem dX11_fill_288 : decode cX11_fill 288 = .ok (.istore 10, 2) := by decide +kernel
theorem dX11_fill_290 : decode cX11_fill 290 = .ok (.aload_n 0, 1) := by decide +kernel
theorem dX11_fill_291 : decode cX11_fill 291 = .ok (.getfield 117, 3) := by decide +kernel
theorem dX11_fill_294 : decode cX11_fill 294 = .ok (.iload 6, 2) := by decide +kernel
theorem dX11_fill_296 : decode cX11_fill 296 = .ok (.iaload, 1) := by decide +kernel
theorem dX11_fill_297 : decode cX11_fill 297 = .ok (.ldc_w 359, 3) := by decide +kernel
theorem dX11_fill_300 : decode cX11_fill 300 = .ok (.if_icmp .eq 42, 3) := by decide +kernel
theorem dX11_fill_303 : decode cX11_fill 303 = .ok (.iload 9, 2) := by decide +kernel
theorem dX11_fill_305 : decode cX11_fill 305 = .ok (.aload_n 0, 1) := by decide +kernel
theorem dX11_fill_306 : decode cX11_fill 306 = .ok (.getfield 117, 3) := by decide +kernel
theorem dX11_fill_309 : decode cX11_fill 309 = .ok (.iload 6, 2) := by decide +kernel
theorem dX11_fill_311 : decode cX11_fill 311 = .ok (.iaload, 1) := by decide +kernel
theorem dX11_fill_312 : decode cX11_fill 312 = .ok (.if_icmp .lt 56, 3) := by decide +kernel
theorem dX11_fill_315 : decode cX11_fill 315 = .ok (.iload 9, 2) := by decide +kernel
theorem dX11_fill_317 : decode cX11_fill 317 = .ok (.aload_n 0, 1) := by decide +kernel
theorem dX11_fill_318 : decode cX11_fill 318 = .ok (.getfield 117, 3) := by decide +kernel
theorem dX11_fill_321 : decode cX11_fill 321 = .ok (.iload 6, 2) := by decide +kernel
theorem dX11_fill_323 : decode cX11_fill 323 = .ok (.iaload, 1) := by decide +kernel
theorem dX11_fill_324 : decode cX11_fill 324 = .ok (.if_icmp .ne 18, 3) := by decide +kernel
theorem dX11_fill_327 : decode cX11_fill 327 = .ok (.iload 10, 2) := by decide +kernel
theorem dX11_fill_329 : decode cX11_fill 329 = .ok (.aload_n 0, 1) := by decide +kernel
theorem dX11_fill_330 : decode cX11_fill 330 = .ok (.getfield 120, 3) := by decide +kernel
theorem dX11_fill_333 : decode cX11_fill 333 = .ok (.iload 6, 2) := by decide +kernel
theorem dX11_fill_335 : decode cX11_fill 335 = .ok (.iaload, 1) := by decide +kernel
theorem dX11_fill_336 : decode cX11_fill 336 = .ok (.if_icmp .lt 6, 3) := by decide +kernel
theorem dX11_fill_339 : decode cX11_fill 339 = .ok (.goto 29, 3) := by decide +kernel
theorem dX11_fill_342 : decode cX11_fill 342 = .ok (.aload_n 0, 1) := by decide +kernel
theorem dX11_fill_343 : decode cX11_fill 343 = .ok (.getfield 117, 3) := by decide +kernel
theorem dX11_fill_346 : decode cX11_fill 346 = .ok (.iload 6, 2) := by decide +kernel
theorem dX11_fill_348 : decode cX11_fill 348 = .ok (.iload 9, 2) := by decide +kernel
theorem dX11_fill_350 : decode cX11_fill 350 = .ok (.iastore, 1) := by decide +kernel
theorem dX11_fill_351 : decode cX11_fill 351 = .ok (.aload_n 0, 1) := by decide +kernel
theorem dX11_fill_352 : decode cX11_fill 352 = .ok (.getfield 120, 3) := by decide +kernel
theorem dX11_fill_355 : decode cX11_fill 355 = .ok (.iload 6, 2) := by decide +kernel
theorem dX11_fill_357 : decode cX11_fill 357 = .ok (.iload 10, 2) := by decide +kernel
theorem dX11_fill_359 : decode cX11_fill 359 = .ok (.iastore, 1) := by decide +kernel
theorem dX11_fill_360 : decode cX11_fill 360 = .ok (.aload_n 0, 1) := by decide +kernel
theorem dX11_fill_361 : decode cX11_fill 361 = .ok (.getfield 123, 3) := by decide +kernel
theorem dX11_fill_364 : decode cX11_fill 364 = .ok (.iload 6, 2) := by decide +kernel
theorem dX11_fill_366 : decode cX11_fill 366 = .ok (.iconst 0, 1) := by decide +kernel
theorem dX11_fill_367 : decode cX11_fill 367 = .ok (.bastore, 1) := by decide +kernel
theorem dX11_fill_368 : decode cX11_fill 368 = .ok (.iinc 5 1, 3) := by decide +kernel
theorem dX11_fill_371 : decode cX11_fill 371 = .ok (.goto (-319), 3) := by decide +kernel
theorem dX11_fill_374 : decode cX11_fill 374 = .ok (.iinc 4 1, 3) := by decide +kernel
theorem dX11_fill_377 : decode cX11_fill 377 = .ok (.goto (-337), 3) := by decide +kernel
theorem dX11_fill_380 : decode cX11_fill 380 = .ok (.iinc 3 1, 3) := by decide +kernel
theorem dX11_fill_383 : decode cX11_fill 383 = .ok (.goto (-351), 3) := by decide +kernel
theorem dX11_fill_386 : decode cX11_fill 386 = .ok (.aload_n 0, 1) := by decide +kernel
theorem dX11_fill_387 : decode cX11_fill 387 = .ok (.getfield 117, 3) := by decide +kernel
theorem dX11_fill_390 : decode cX11_fill 390 = .ok (.iload_n 2, 1) := by decide +kernel
theorem dX11_fill_391 : decode cX11_fill 391 = .ok (.aload_n 0, 1) := by decide +kernel
theorem dX11_fill_392 : decode cX11_fill 392 = .ok (.getfield 50, 3) := by decide +kernel
theorem dX11_fill_395 : decode cX11_fill 395 = .ok (.iload_n 1, 1) := by decide +kernel
theorem dX11_fill_396 : decode cX11_fill 396 = .ok (.iaload, 1) := by decide +kernel
theorem dX11_fill_397 : decode cX11_fill 397 = .ok (.aload_n 0, 1) := by decide +kernel
theorem dX11_fill_398 : decode cX11_fill 398 = .ok (.getfield 47, 3) := by decide +kernel
theorem dX11_fill_401 : decode cX11_fill 401 = .ok (.iload_n 1, 1) := by decide +kernel
theorem dX11_fill_402 : decode cX11_fill 402 = .ok (.iaload, 1) := by decide +kernel
theorem dX11_fill_403 : decode cX11_fill 403 = .ok (.invokestatic 355, 3) := by decide +kernel
theorem dX11_fill_406 : decode cX11_fill 406 = .ok (.iaload, 1) := by decide +kernel
theorem dX11_fill_407 : decode cX11_fill 407 = .ok (.ldc_w 359, 3) := by decide +kernel
theorem dX11_fill_410 : decode cX11_fill 410 = .ok (.if_icmp .eq 7, 3) := by decide +kernel
theorem dX11_fill_413 : decode cX11_fill 413 = .ok (.iconst 1, 1) := by decide +kernel
theorem dX11_fill_414 : decode cX11_fill 414 = .ok (.goto 4, 3) := by decide +kernel
theorem dX11_fill_417 : decode cX11_fill 417 = .ok (.iconst 0, 1) := by decide +kernel
theorem dX11_fill_418 : decode cX11_fill 418 = .ok (.ireturn, 1) := by decide +kernel
theorem dX11_gain_0 : decode cX11_gain 0 = .ok (.aload_n 0, 1) := by decide +kernel
theorem dX11_gain_1 : decode cX11_gain 1 = .ok (.iload_n 1, 1) := by decide +kernel
theorem dX11_gain_2 : decode cX11_gain 2 = .ok (.iload_n 2, 1) := by decide +kernel
theorem dX11_gain_3 : decode cX11_gain 3 = .ok (.invokevirtual 360, 3) := by decide +kernel
theorem dX11_gain_6 : decode cX11_gain 6 = .ok (.ifCond .eq 27, 3) := by decide +kernel
theorem dX11_gain_9 : decode cX11_gain 9 = .ok (.aload_n 0, 1) := by decide +kernel
theorem dX11_gain_10 : decode cX11_gain 10 = .ok (.getfield 117, 3) := by decide +kernel
theorem dX11_gain_13 : decode cX11_gain 13 = .ok (.iload_n 2, 1) := by decide +kernel
theorem dX11_gain_14 : decode cX11_gain 14 = .ok (.aload_n 0, 1) := by decide +kernel
theorem dX11_gain_15 : decode cX11_gain 15 = .ok (.getfield 50, 3) := by decide +kernel
theorem dX11_gain_18 : decode cX11_gain 18 = .ok (.iload_n 1, 1) := by decide +kernel
theorem dX11_gain_19 : decode cX11_gain 19 = .ok (.iaload, 1) := by decide +kernel
theorem dX11_gain_20 : decode cX11_gain 20 = .ok (.aload_n 0, 1) := by decide +kernel
theorem dX11_gain_21 : decode cX11_gain 21 = .ok (.getfield 47, 3) := by decide +kernel
theorem dX11_gain_24 : decode cX11_gain 24 = .ok (.iload_n 1, 1) := by decide +kernel
theorem dX11_gain_25 : decode cX11_gain 25 = .ok (.iaload, 1) := by decide +kernel
theorem dX11_gain_26 : decode cX11_gain 26 = .ok (.invokestatic 355, 3) := by decide +kernel
theorem dX11_gain_29 : decode cX11_gain 29 = .ok (.iaload, 1) := by decide +kernel
theorem dX11_gain_30 : decode cX11_gain 30 = .ok (.goto 6, 3) := by decide +kernel
theorem dX11_gain_33 : decode cX11_gain 33 = .ok (.ldc_w 359, 3) := by decide +kernel
theorem dX11_gain_36 : decode cX11_gain 36 = .ok (.ireturn, 1) := by decide +kernel
theorem dX11_length_0 : decode cX11_length 0 = .ok (.aload_n 0, 1) := by decide +kernel
theorem dX11_length_1 : decode cX11_length 1 = .ok (.iload_n 1, 1) := by decide +kernel
theorem dX11_length_2 : decode cX11_length 2 = .ok (.iload_n 2, 1) := by decide +kernel
theorem dX11_length_3 : decode cX11_length 3 = .ok (.invokevirtual 360, 3) := by decide +kernel
theorem dX11_length_6 : decode cX11_length 6 = .ok (.ifCond .eq 27, 3) := by decide +kernel
theorem dX11_length_9 : decode cX11_length 9 = .ok (.aload_n 0, 1) := by decide +kernel
theorem dX11_length_10 : decode cX11_length 10 = .ok (.getfield 120, 3) := by decide +kernel
theorem dX11_length_13 : decode cX11_length 13 = .ok (.iload_n 2, 1) := by decide +kernel
theorem dX11_length_14 : decode cX11_length 14 = .ok (.aload_n 0, 1) := by decide +kernel
theorem dX11_length_15 : decode cX11_length 15 = .ok (.getfield 50, 3) := by decide +kernel
theorem dX11_length_18 : decode cX11_length 18 = .ok (.iload_n 1, 1) := by decide +kernel
theorem dX11_length_19 : decode cX11_length 19 = .ok (.iaload, 1) := by decide +kernel
theorem dX11_length_20 : decode cX11_length 20 = .ok (.aload_n 0, 1) := by decide +kernel
theorem dX11_length_21 : decode cX11_length 21 = .ok (.getfield 47, 3) := by decide +kernel
theorem dX11_length_24 : decode cX11_length 24 = .ok (.iload_n 1, 1) := by decide +kernel
theorem dX11_length_25 : decode cX11_length 25 = .ok (.iaload, 1) := by decide +kernel
theorem dX11_length_26 : decode cX11_length 26 = .ok (.invokestatic 355, 3) := by decide +kernel
theorem dX11_length_29 : decode cX11_length 29 = .ok (.iaload, 1) := by decide +kernel
theorem dX11_length_30 : decode cX11_length 30 = .ok (.goto 4, 3) := by decide +kernel
theorem dX11_length_33 : decode cX11_length 33 = .ok (.iconst (-1), 1) := by decide +kernel
theorem dX11_length_34 : decode cX11_length 34 = .ok (.ireturn, 1) := by decide +kernel
theorem dX11_act_0 : decode cX11_act 0 = .ok (.aload_n 0, 1) := by decide +kernel
theorem dX11_act_1 : decode cX11_act 1 = .ok (.iload_n 1, 1) := by decide +kernel
theorem dX11_act_2 : decode cX11_act 2 = .ok (.iload_n 2, 1) := by decide +kernel
theorem dX11_act_3 : decode cX11_act 3 = .ok (.invokevirtual 360, 3) := by decide +kernel
theorem dX11_act_6 : decode cX11_act 6 = .ok (.ifCond .eq 32, 3) := by decide +kernel
theorem dX11_act_9 : decode cX11_act 9 = .ok (.iload_n 3, 1) := by decide +kernel
theorem dX11_act_10 : decode cX11_act 10 = .ok (.ifCond .lt 28, 3) := by decide +kernel
theorem dX11_act_13 : decode cX11_act 13 = .ok (.iload_n 3, 1) := by decide +kernel
theorem dX11_act_14 : decode cX11_act 14 = .ok (.aload_n 0, 1) := by decide +kernel
theorem dX11_act_15 : decode cX11_act 15 = .ok (.getfield 120, 3) := by decide +kernel
theorem dX11_act_18 : decode cX11_act 18 = .ok (.iload_n 2, 1) := by decide +kernel
theorem dX11_act_19 : decode cX11_act 19 = .ok (.aload_n 0, 1) := by decide +kernel
theorem dX11_act_20 : decode cX11_act 20 = .ok (.getfield 50, 3) := by decide +kernel
theorem dX11_act_23 : decode cX11_act 23 = .ok (.iload_n 1, 1) := by decide +kernel
theorem dX11_act_24 : decode cX11_act 24 = .ok (.iaload, 1) := by decide +kernel
theorem dX11_act_25 : decode cX11_act 25 = .ok (.aload_n 0, 1) := by decide +kernel
theorem dX11_act_26 : decode cX11_act 26 = .ok (.getfield 47, 3) := by decide +kernel
theorem dX11_act_29 : decode cX11_act 29 = .ok (.iload_n 1, 1) := by decide +kernel
theorem dX11_act_30 : decode cX11_act 30 = .ok (.iaload, 1) := by decide +kernel
theorem dX11_act_31 : decode cX11_act 31 = .ok (.invokestatic 355, 3) := by decide +kernel
theorem dX11_act_34 : decode cX11_act 34 = .ok (.iaload, 1) := by decide +kernel
theorem dX11_act_35 : decode cX11_act 35 = .ok (.if_icmp .lt 5, 3) := by decide +kernel
theorem dX11_act_38 : decode cX11_act 38 = .ok (.iconst (-1), 1) := by decide +kernel
theorem dX11_act_39 : decode cX11_act 39 = .ok (.ireturn, 1) := by decide +kernel
theorem dX11_act_40 : decode cX11_act 40 = .ok (.aload_n 0, 1) := by decide +kernel
theorem dX11_act_41 : decode cX11_act 41 = .ok (.getfield 50, 3) := by decide +kernel
theorem dX11_act_44 : decode cX11_act 44 = .ok (.iload_n 1, 1) := by decide +kernel
theorem dX11_act_45 : decode cX11_act 45 = .ok (.iaload, 1) := by decide +kernel
theorem dX11_act_46 : decode cX11_act 46 = .ok (.istore 4, 2) := by decide +kernel
theorem dX11_act_48 : decode cX11_act 48 = .ok (.aload_n 0, 1) := by decide +kernel
theorem dX11_act_49 : decode cX11_act 49 = .ok (.getfield 47, 3) := by decide +kernel
theorem dX11_act_52 : decode cX11_act 52 = .ok (.iload_n 1, 1) := by decide +kernel
theorem dX11_act_53 : decode cX11_act 53 = .ok (.iaload, 1) := by decide +kernel
theorem dX11_act_54 : decode cX11_act 54 = .ok (.istore 5, 2) := by decide +kernel
theorem dX11_act_56 : decode cX11_act 56 = .ok (.iconst 0, 1) := by decide +kernel
theorem dX11_act_57 : decode cX11_act 57 = .ok (.istore 6, 2) := by decide +kernel
theorem dX11_act_59 : decode cX11_act 59 = .ok (.iload 6, 2) := by decide +kernel
theorem dX11_act_61 : decode cX11_act 61 = .ok (.iload_n 3, 1) := by decide +kernel
theorem dX11_act_62 : decode cX11_act 62 = .ok (.if_icmp .ge 64, 3) := by decide +kernel
theorem dX11_act_65 : decode cX11_act 65 = .ok (.aload_n 0, 1) := by decide +kernel
theorem dX11_act_66 : decode cX11_act 66 = .ok (.getfield 123, 3) := by decide +kernel
theorem dX11_act_69 : decode cX11_act 69 = .ok (.iload_n 2, 1) := by decide +kernel
theorem dX11_act_70 : decode cX11_act 70 = .ok (.iload 6, 2) := by decide +kernel
theorem dX11_act_72 : decode cX11_act 72 = .ok (.isub, 1) := by decide +kernel
theorem dX11_act_73 : decode cX11_act 73 = .ok (.iload 4, 2) := by decide +kernel
theorem dX11_act_75 : decode cX11_act 75 = .ok (.iload 5, 2) := by decide +kernel
theorem dX11_act_77 : decode cX11_act 77 = .ok (.invokestatic 355, 3) := by decide +kernel
theorem dX11_act_80 : decode cX11_act 80 = .ok (.baload, 1) := by decide +kernel
theorem dX11_act_81 : decode cX11_act 81 = .ok (.ifCond .eq 21, 3) := by decide +kernel
theorem dX11_act_84 : decode cX11_act 84 = .ok (.iload 5, 2) := by decide +kernel
theorem dX11_act_86 : decode cX11_act 86 = .ok (.aload_n 0, 1) := by decide +kernel
theorem dX11_act_87 : decode cX11_act 87 = .ok (.getfield 13, 3) := by decide +kernel
theorem dX11_act_90 : decode cX11_act 90 = .ok (.iload 4, 2) := by decide +kernel
theorem dX11_act_92 : decode cX11_act 92 = .ok (.iaload, 1) := by decide +kernel
theorem dX11_act_93 : decode cX11_act 93 = .ok (.iadd, 1) := by decide +kernel
theorem dX11_act_94 : decode cX11_act 94 = .ok (.istore 5, 2) := by decide +kernel
theorem dX11_act_96 : decode cX11_act 96 = .ok (.iinc 4 1, 3) := by decide +kernel
theorem dX11_act_99 : decode cX11_act 99 = .ok (.goto 21, 3) := by decide +kernel
theorem dX11_act_102 : decode cX11_act 102 = .ok (.iload 5, 2) := by decide +kernel
theorem dX11_act_104 : decode cX11_act 104 = .ok (.bipush 15, 2) := by decide +kernel
theorem dX11_act_106 : decode cX11_act 106 = .ok (.if_icmp .ge 7, 3) := by decide +kernel
theorem dX11_act_109 : decode cX11_act 109 = .ok (.iconst 0, 1) := by decide +kernel
theorem dX11_act_110 : decode cX11_act 110 = .ok (.goto 8, 3) := by decide +kernel
theorem dX11_act_113 : decode cX11_act 113 = .ok (.iload 5, 2) := by decide +kernel
theorem dX11_act_115 : decode cX11_act 115 = .ok (.bipush 15, 2) := by decide +kernel
theorem dX11_act_117 : decode cX11_act 117 = .ok (.isub, 1) := by decide +kernel
theorem dX11_act_118 : decode cX11_act 118 = .ok (.istore 5, 2) := by decide +kernel
theorem dX11_act_120 : decode cX11_act 120 = .ok (.iinc 6 1, 3) := by decide +kernel
theorem dX11_act_123 : decode cX11_act 123 = .ok (.goto (-64), 3) := by decide +kernel
theorem dX11_act_126 : decode cX11_act 126 = .ok (.aload_n 0, 1) := by decide +kernel
theorem dX11_act_127 : decode cX11_act 127 = .ok (.getfield 123, 3) := by decide +kernel
theorem dX11_act_130 : decode cX11_act 130 = .ok (.iload_n 2, 1) := by decide +kernel
theorem dX11_act_131 : decode cX11_act 131 = .ok (.iload_n 3, 1) := by decide +kernel
theorem dX11_act_132 : decode cX11_act 132 = .ok (.isub, 1) := by decide +kernel
theorem dX11_act_133 : decode cX11_act 133 = .ok (.iload 4, 2) := by decide +kernel
theorem dX11_act_135 : decode cX11_act 135 = .ok (.iload 5, 2) := by decide +kernel
theorem dX11_act_137 : decode cX11_act 137 = .ok (.invokestatic 355, 3) := by decide +kernel
theorem dX11_act_140 : decode cX11_act 140 = .ok (.baload, 1) := by decide +kernel
theorem dX11_act_141 : decode cX11_act 141 = .ok (.ifCond .eq 7, 3) := by decide +kernel
theorem dX11_act_144 : decode cX11_act 144 = .ok (.iconst 1, 1) := by decide +kernel
theorem dX11_act_145 : decode cX11_act 145 = .ok (.goto 4, 3) := by decide +kernel
theorem dX11_act_148 : decode cX11_act 148 = .ok (.iconst 0, 1) := by decide +kernel
theorem dX11_act_149 : decode cX11_act 149 = .ok (.ireturn, 1) := by decide +kernel
theorem dX11_isHand_0 : decode cX11_isHand 0 = .ok (.iload_n 0, 1) := by decide +kernel
theorem dX11_isHand_1 : decode cX11_isHand 1 = .ok (.ifCond .lt 13, 3) := by decide +kernel
theorem dX11_isHand_4 : decode cX11_isHand 4 = .ok (.iload_n 0, 1) := by decide +kernel
theorem dX11_isHand_5 : decode cX11_isHand 5 = .ok (.bipush 9, 2) := by decide +kernel
theorem dX11_isHand_7 : decode cX11_isHand 7 = .ok (.if_icmp .gt 7, 3) := by decide +kernel
theorem dX11_isHand_10 : decode cX11_isHand 10 = .ok (.iconst 1, 1) := by decide +kernel
theorem dX11_isHand_11 : decode cX11_isHand 11 = .ok (.goto 4, 3) := by decide +kernel
theorem dX11_isHand_14 : decode cX11_isHand 14 = .ok (.iconst 0, 1) := by decide +kernel
theorem dX11_isHand_15 : decode cX11_isHand 15 = .ok (.ireturn, 1) := by decide +kernel
theorem dX11_isBill_0 : decode cX11_isBill 0 = .ok (.iload_n 1, 1) := by decide +kernel
theorem dX11_isBill_1 : decode cX11_isBill 1 = .ok (.ifCond .lt 15, 3) := by decide +kernel
theorem dX11_isBill_4 : decode cX11_isBill 4 = .ok (.iload_n 1, 1) := by decide +kernel
theorem dX11_isBill_5 : decode cX11_isBill 5 = .ok (.aload_n 0, 1) := by decide +kernel
theorem dX11_isBill_6 : decode cX11_isBill 6 = .ok (.getfield 363, 3) := by decide +kernel
theorem dX11_isBill_9 : decode cX11_isBill 9 = .ok (.if_icmp .ge 7, 3) := by decide +kernel
theorem dX11_isBill_12 : decode cX11_isBill 12 = .ok (.iconst 1, 1) := by decide +kernel
theorem dX11_isBill_13 : decode cX11_isBill 13 = .ok (.goto 4, 3) := by decide +kernel
theorem dX11_isBill_16 : decode cX11_isBill 16 = .ok (.iconst 0, 1) := by decide +kernel
theorem dX11_isBill_17 : decode cX11_isBill 17 = .ok (.ireturn, 1) := by decide +kernel
theorem dX11_bill_0 : decode cX11_bill 0 = .ok (.aload_n 0, 1) := by decide +kernel
theorem dX11_bill_1 : decode cX11_bill 1 = .ok (.getfield 363, 3) := by decide +kernel
theorem dX11_bill_4 : decode cX11_bill 4 = .ok (.bipush 20, 2) := by decide +kernel
theorem dX11_bill_6 : decode cX11_bill 6 = .ok (.if_icmp .eq 32, 3) := by decide +kernel
theorem dX11_bill_9 : decode cX11_bill 9 = .ok (.iload_n 1, 1) := by decide +kernel
theorem dX11_bill_10 : decode cX11_bill 10 = .ok (.iconst 1, 1) := by decide +kernel
theorem dX11_bill_11 : decode cX11_bill 11 = .ok (.if_icmp .lt 27, 3) := by decide +kernel
theorem dX11_bill_14 : decode cX11_bill 14 = .ok (.iload_n 1, 1) := by decide +kernel
theorem dX11_bill_15 : decode cX11_bill 15 = .ok (.ldc_w 366, 3) := by decide +kernel
theorem dX11_bill_18 : decode cX11_bill 18 = .ok (.if_icmp .gt 20, 3) := by decide +kernel
theorem dX11_bill_21 : decode cX11_bill 21 = .ok (.iload_n 2, 1) := by decide +kernel
theorem dX11_bill_22 : decode cX11_bill 22 = .ok (.invokestatic 367, 3) := by decide +kernel
theorem dX11_bill_25 : decode cX11_bill 25 = .ok (.ifCond .eq 13, 3) := by decide +kernel
theorem dX11_bill_28 : decode cX11_bill 28 = .ok (.iload_n 3, 1) := by decide +kernel
theorem dX11_bill_29 : decode cX11_bill 29 = .ok (.ifCond .lt 9, 3) := by decide +kernel
theorem dX11_bill_32 : decode cX11_bill 32 = .ok (.iload_n 3, 1) := by decide +kernel
theorem dX11_bill_33 : decode cX11_bill 33 = .ok (.ldc 174, 2) := by decide +kernel
theorem dX11_bill_35 : decode cX11_bill 35 = .ok (.if_icmp .le 5, 3) := by decide +kernel
theorem dX11_bill_38 : decode cX11_bill 38 = .ok (.iconst (-1), 1) := by decide +kernel
theorem dX11_bill_39 : decode cX11_bill 39 = .ok (.ireturn, 1) := by decide +kernel
theorem dX11_bill_40 : decode cX11_bill 40 = .ok (.aload_n 0, 1) := by decide +kernel
theorem dX11_bill_41 : decode cX11_bill 41 = .ok (.getfield 127, 3) := by decide +kernel
theorem dX11_bill_44 : decode cX11_bill 44 = .ok (.aload_n 0, 1) := by decide +kernel
theorem dX11_bill_45 : decode cX11_bill 45 = .ok (.getfield 363, 3) := by decide +kernel
theorem dX11_bill_48 : decode cX11_bill 48 = .ok (.iload_n 1, 1) := by decide +kernel
theorem dX11_bill_49 : decode cX11_bill 49 = .ok (.iastore, 1) := by decide +kernel
theorem dX11_bill_50 : decode cX11_bill 50 = .ok (.aload_n 0, 1) := by decide +kernel
theorem dX11_bill_51 : decode cX11_bill 51 = .ok (.getfield 130, 3) := by decide +kernel
theorem dX11_bill_54 : decode cX11_bill 54 = .ok (.aload_n 0, 1) := by decide +kernel
theorem dX11_bill_55 : decode cX11_bill 55 = .ok (.getfield 363, 3) := by decide +kernel
theorem dX11_bill_58 : decode cX11_bill 58 = .ok (.iload_n 2, 1) := by decide +kernel
theorem dX11_bill_59 : decode cX11_bill 59 = .ok (.iastore, 1) := by decide +kernel
theorem dX11_bill_60 : decode cX11_bill 60 = .ok (.aload_n 0, 1) := by decide +kernel
theorem dX11_bill_61 : decode cX11_bill 61 = .ok (.getfield 133, 3) := by decide +kernel
theorem dX11_bill_64 : decode cX11_bill 64 = .ok (.aload_n 0, 1) := by decide +kernel
theorem dX11_bill_65 : decode cX11_bill 65 = .ok (.getfield 363, 3) := by decide +kernel
theorem dX11_bill_68 : decode cX11_bill 68 = .ok (.iload_n 3, 1) := by decide +kernel
theorem dX11_bill_69 : decode cX11_bill 69 = .ok (.iastore, 1) := by decide +kernel
theorem dX11_bill_70 : decode cX11_bill 70 = .ok (.aload_n 0, 1) := by decide +kernel
theorem dX11_bill_71 : decode cX11_bill 71 = .ok (.getfield 136, 3) := by decide +kernel
theorem dX11_bill_74 : decode cX11_bill 74 = .ok (.aload_n 0, 1) := by decide +kernel
theorem dX11_bill_75 : decode cX11_bill 75 = .ok (.getfield 363, 3) := by decide +kernel
theorem dX11_bill_78 : decode cX11_bill 78 = .ok (.iconst (-1), 1) := by decide +kernel
theorem dX11_bill_79 : decode cX11_bill 79 = .ok (.iastore, 1) := by decide +kernel
theorem dX11_bill_80 : decode cX11_bill 80 = .ok (.aload_n 0, 1) := by decide +kernel
theorem dX11_bill_81 : decode cX11_bill 81 = .ok (.getfield 139, 3) := by decide +kernel
theorem dX11_bill_84 : decode cX11_bill 84 = .ok (.aload_n 0, 1) := by decide +kernel
theorem dX11_bill_85 : decode cX11_bill 85 = .ok (.getfield 363, 3) := by decide +kernel
theorem dX11_bill_88 : decode cX11_bill 88 = .ok (.iconst (-1), 1) := by decide +kernel
theorem dX11_bill_89 : decode cX11_bill 89 = .ok (.iastore, 1) := by decide +kernel
theorem dX11_bill_90 : decode cX11_bill 90 = .ok (.aload_n 0, 1) := by decide +kernel
theorem dX11_bill_91 : decode cX11_bill 91 = .ok (.dup, 1) := by decide +kernel
theorem dX11_bill_92 : decode cX11_bill 92 = .ok (.getfield 363, 3) := by decide +kernel
theorem dX11_bill_95 : decode cX11_bill 95 = .ok (.iconst 1, 1) := by decide +kernel
theorem dX11_bill_96 : decode cX11_bill 96 = .ok (.iadd, 1) := by decide +kernel
theorem dX11_bill_97 : decode cX11_bill 97 = .ok (.putfield 363, 3) := by decide +kernel
theorem dX11_bill_100 : decode cX11_bill 100 = .ok (.aload_n 0, 1) := by decide +kernel
theorem dX11_bill_101 : decode cX11_bill 101 = .ok (.getfield 363, 3) := by decide +kernel
theorem dX11_bill_104 : decode cX11_bill 104 = .ok (.iconst 1, 1) := by decide +kernel
theorem dX11_bill_105 : decode cX11_bill 105 = .ok (.isub, 1) := by decide +kernel
theorem dX11_bill_106 : decode cX11_bill 106 = .ok (.ireturn, 1) := by decide +kernel
theorem dX11_pass_0 : decode cX11_pass 0 = .ok (.aload_n 0, 1) := by decide +kernel
theorem dX11_pass_1 : decode cX11_pass 1 = .ok (.getfield 370, 3) := by decide +kernel
theorem dX11_pass_4 : decode cX11_pass 4 = .ok (.bipush 60, 2) := by decide +kernel
theorem dX11_pass_6 : decode cX11_pass 6 = .ok (.if_icmp .eq 44, 3) := by decide +kernel
theorem dX11_pass_9 : decode cX11_pass 9 = .ok (.aload_n 0, 1) := by decide +kernel
theorem dX11_pass_10 : decode cX11_pass 10 = .ok (.iload_n 1, 1) := by decide +kernel
theorem dX11_pass_11 : decode cX11_pass 11 = .ok (.invokevirtual 373, 3) := by decide +kernel
theorem dX11_pass_14 : decode cX11_pass 14 = .ok (.ifCond .eq 36, 3) := by decide +kernel
theorem dX11_pass_17 : decode cX11_pass 17 = .ok (.iload_n 2, 1) := by decide +kernel
theorem dX11_pass_18 : decode cX11_pass 18 = .ok (.invokestatic 367, 3) := by decide +kernel
theorem dX11_pass_21 : decode cX11_pass 21 = .ok (.ifCond .eq 29, 3) := by decide +kernel
theorem dX11_pass_24 : decode cX11_pass 24 = .ok (.iload_n 3, 1) := by decide +kernel
theorem dX11_pass_25 : decode cX11_pass 25 = .ok (.invokestatic 367, 3) := by decide +kernel
theorem dX11_pass_28 : decode cX11_pass 28 = .ok (.ifCond .eq 22, 3) := by decide +kernel
theorem dX11_pass_31 : decode cX11_pass 31 = .ok (.iload_n 2, 1) := by decide +kernel
theorem dX11_pass_32 : decode cX11_pass 32 = .ok (.iload_n 3, 1) := by decide +kernel
theorem dX11_pass_33 : decode cX11_pass 33 = .ok (.if_icmp .eq 17, 3) := by decide +kernel
theorem dX11_pass_36 : decode cX11_pass 36 = .ok (.iload 4, 2) := by decide +kernel
theorem dX11_pass_38 : decode cX11_pass 38 = .ok (.ifCond .lt 12, 3) := by decide +kernel
theorem dX11_pass_41 : decode cX11_pass 41 = .ok (.iload 4, 2) := by decide +kernel
theorem dX11_pass_43 : decode cX11_pass 43 = .ok (.aload_n 0, 1) := by decide +kernel
theorem dX11_pass_44 : decode cX11_pass 44 = .ok (.getfield 178, 3) := by decide +kernel
theorem dX11_pass_47 : decode cX11_pass 47 = .ok (.if_icmp .le 5, 3) := by decide +kernel
theorem dX11_pass_50 : decode cX11_pass 50 = .ok (.iconst (-1), 1) := by decide +kernel
theorem dX11_pass_51 : decode cX11_pass 51 = .ok (.ireturn, 1) := by decide +kernel
theorem dX11_pass_52 : decode cX11_pass 52 = .ok (.aload_n 0, 1) := by decide +kernel
theorem dX11_pass_53 : decode cX11_pass 53 = .ok (.getfield 142, 3) := by decide +kernel
theorem dX11_pass_56 : decode cX11_pass 56 = .ok (.aload_n 0, 1) := by decide +kernel
theorem dX11_pass_57 : decode cX11_pass 57 = .ok (.getfield 370, 3) := by decide +kernel
theorem dX11_pass_60 : decode cX11_pass 60 = .ok (.iload_n 1, 1) := by decide +kernel
theorem dX11_pass_61 : decode cX11_pass 61 = .ok (.iastore, 1) := by decide +kernel
theorem dX11_pass_62 : decode cX11_pass 62 = .ok (.aload_n 0, 1) := by decide +kernel
theorem dX11_pass_63 : decode cX11_pass 63 = .ok (.getfield 145, 3) := by decide +kernel
theorem dX11_pass_66 : decode cX11_pass 66 = .ok (.aload_n 0, 1) := by decide +kernel
theorem dX11_pass_67 : decode cX11_pass 67 = .ok (.getfield 370, 3) := by decide +kernel
theorem dX11_pass_70 : decode cX11_pass 70 = .ok (.iload_n 2, 1) := by decide +kernel
theorem dX11_pass_71 : decode cX11_pass 71 = .ok (.iastore, 1) := by decide +kernel
theorem dX11_pass_72 : decode cX11_pass 72 = .ok (.aload_n 0, 1) := by decide +kernel
theorem dX11_pass_73 : decode cX11_pass 73 = .ok (.getfield 148, 3) := by decide +kernel
theorem dX11_pass_76 : decode cX11_pass 76 = .ok (.aload_n 0, 1) := by decide +kernel
theorem dX11_pass_77 : decode cX11_pass 77 = .ok (.getfield 370, 3) := by decide +kernel
theorem dX11_pass_80 : decode cX11_pass 80 = .ok (.iload_n 3, 1) := by decide +kernel
theorem dX11_pass_81 : decode cX11_pass 81 = .ok (.iastore, 1) := by decide +kernel
theorem dX11_pass_82 : decode cX11_pass 82 = .ok (.aload_n 0, 1) := by decide +kernel
theorem dX11_pass_83 : decode cX11_pass 83 = .ok (.getfield 151, 3) := by decide +kernel
theorem dX11_pass_86 : decode cX11_pass 86 = .ok (.aload_n 0, 1) := by decide +kernel
theorem dX11_pass_87 : decode cX11_pass 87 = .ok (.getfield 370, 3) := by decide +kernel
theorem dX11_pass_90 : decode cX11_pass 90 = .ok (.iload 4, 2) := by decide +kernel
theorem dX11_pass_92 : decode cX11_pass 92 = .ok (.iastore, 1) := by decide +kernel
theorem dX11_pass_93 : decode cX11_pass 93 = .ok (.aload_n 0, 1) := by decide +kernel
theorem dX11_pass_94 : decode cX11_pass 94 = .ok (.getfield 154, 3) := by decide +kernel
theorem dX11_pass_97 : decode cX11_pass 97 = .ok (.aload_n 0, 1) := by decide +kernel
theorem dX11_pass_98 : decode cX11_pass 98 = .ok (.getfield 370, 3) := by decide +kernel
theorem dX11_pass_101 : decode cX11_pass 101 = .ok (.aload_n 0, 1) := by decide +kernel
theorem dX11_pass_102 : decode cX11_pass 102 = .ok (.getfield 178, 3) := by decide +kernel
theorem dX11_pass_105 : decode cX11_pass 105 = .ok (.iastore, 1) := by decide +kernel
theorem dX11_pass_106 : decode cX11_pass 106 = .ok (.aload_n 0, 1) := by decide +kernel
theorem dX11_pass_107 : decode cX11_pass 107 = .ok (.getfield 157, 3) := by decide +kernel
theorem dX11_pass_110 : decode cX11_pass 110 = .ok (.aload_n 0, 1) := by decide +kernel
theorem dX11_pass_111 : decode cX11_pass 111 = .ok (.getfield 370, 3) := by decide +kernel
theorem dX11_pass_114 : decode cX11_pass 114 = .ok (.iconst (-1), 1) := by decide +kernel
theorem dX11_pass_115 : decode cX11_pass 115 = .ok (.iastore, 1) := by decide +kernel
theorem dX11_pass_116 : decode cX11_pass 116 = .ok (.aload_n 0, 1) := by decide +kernel
theorem dX11_pass_117 : decode cX11_pass 117 = .ok (.dup, 1) := by decide +kernel
theorem dX11_pass_118 : decode cX11_pass 118 = .ok (.getfield 370, 3) := by decide +kernel
theorem dX11_pass_121 : decode cX11_pass 121 = .ok (.iconst 1, 1) := by decide +kernel
theorem dX11_pass_122 : decode cX11_pass 122 = .ok (.iadd, 1) := by decide +kernel
theorem dX11_pass_123 : decode cX11_pass 123 = .ok (.putfield 370, 3) := by decide +kernel
theorem dX11_pass_126 : decode cX11_pass 126 = .ok (.aload_n 0, 1) := by decide +kernel
theorem dX11_pass_127 : decode cX11_pass 127 = .ok (.getfield 370, 3) := by decide +kernel
theorem dX11_pass_130 : decode cX11_pass 130 = .ok (.iconst 1, 1) := by decide +kernel
theorem dX11_pass_131 : decode cX11_pass 131 = .ok (.isub, 1) := by decide +kernel
theorem dX11_pass_132 : decode cX11_pass 132 = .ok (.ireturn, 1) := by decide +kernel
theorem dX11_untell_0 : decode cX11_untell 0 = .ok (.iload_n 1, 1) := by decide +kernel
theorem dX11_untell_1 : decode cX11_untell 1 = .ok (.ifCond .lt 20, 3) := by decide +kernel
theorem dX11_untell_4 : decode cX11_untell 4 = .ok (.iload_n 1, 1) := by decide +kernel
theorem dX11_untell_5 : decode cX11_untell 5 = .ok (.aload_n 0, 1) := by decide +kernel
theorem dX11_untell_6 : decode cX11_untell 6 = .ok (.getfield 370, 3) := by decide +kernel
theorem dX11_untell_9 : decode cX11_untell 9 = .ok (.if_icmp .ge 12, 3) := by decide +kernel
theorem dX11_untell_12 : decode cX11_untell 12 = .ok (.aload_n 0, 1) := by decide +kernel
theorem dX11_untell_13 : decode cX11_untell 13 = .ok (.getfield 157, 3) := by decide +kernel
theorem dX11_untell_16 : decode cX11_untell 16 = .ok (.iload_n 1, 1) := by decide +kernel
theorem dX11_untell_17 : decode cX11_untell 17 = .ok (.iaload, 1) := by decide +kernel
theorem dX11_untell_18 : decode cX11_untell 18 = .ok (.ifCond .lt 5, 3) := by decide +kernel
theorem dX11_untell_21 : decode cX11_untell 21 = .ok (.iconst 0, 1) := by decide +kernel
theorem dX11_untell_22 : decode cX11_untell 22 = .ok (.ireturn, 1) := by decide +kernel
theorem dX11_untell_23 : decode cX11_untell 23 = .ok (.aload_n 0, 1) := by decide +kernel
theorem dX11_untell_24 : decode cX11_untell 24 = .ok (.getfield 157, 3) := by decide +kernel
theorem dX11_untell_27 : decode cX11_untell 27 = .ok (.iload_n 1, 1) := by decide +kernel
theorem dX11_untell_28 : decode cX11_untell 28 = .ok (.aload_n 0, 1) := by decide +kernel
theorem dX11_untell_29 : decode cX11_untell 29 = .ok (.getfield 178, 3) := by decide +kernel
theorem dX11_untell_32 : decode cX11_untell 32 = .ok (.iastore, 1) := by decide +kernel
theorem dX11_untell_33 : decode cX11_untell 33 = .ok (.iconst 1, 1) := by decide +kernel
theorem dX11_untell_34 : decode cX11_untell 34 = .ok (.ireturn, 1) := by decide +kernel
theorem dX11_holder_0 : decode cX11_holder 0 = .ok (.aload_n 0, 1) := by decide +kernel
theorem dX11_holder_1 : decode cX11_holder 1 = .ok (.iload_n 1, 1) := by decide +kernel
theorem dX11_holder_2 : decode cX11_holder 2 = .ok (.invokevirtual 373, 3) := by decide +kernel
theorem dX11_holder_5 : decode cX11_holder 5 = .ok (.ifCond .ne 5, 3) := by decide +kernel
theorem dX11_holder_8 : decode cX11_holder 8 = .ok (.iconst (-1), 1) := by decide +kernel
theorem dX11_holder_9 : decode cX11_holder 9 = .ok (.ireturn, 1) := by decide +kernel
theorem dX11_holder_10 : decode cX11_holder 10 = .ok (.aload_n 0, 1) := by decide +kernel
theorem dX11_holder_11 : decode cX11_holder 11 = .ok (.getfield 130, 3) := by decide +kernel
theorem dX11_holder_14 : decode cX11_holder 14 = .ok (.iload_n 1, 1) := by decide +kernel
theorem dX11_holder_15 : decode cX11_holder 15 = .ok (.iaload, 1) := by decide +kernel
theorem dX11_holder_16 : decode cX11_holder 16 = .ok (.istore 4, 2) := by decide +kernel
theorem dX11_holder_18 : decode cX11_holder 18 = .ok (.iconst (-1), 1) := by decide +kernel
theorem dX11_holder_19 : decode cX11_holder 19 = .ok (.istore 5, 2) := by decide +kernel
theorem dX11_holder_21 : decode cX11_holder 21 = .ok (.iconst (-1), 1) := by decide +kernel
theorem dX11_holder_22 : decode cX11_holder 22 = .ok (.istore 6, 2) := by decide +kernel
theorem dX11_holder_24 : decode cX11_holder 24 = .ok (.iconst 1, 1) := by decide +kernel
theorem dX11_holder_25 : decode cX11_holder 25 = .ok (.istore 7, 2) := by decide +kernel
theorem dX11_holder_27 : decode cX11_holder 27 = .ok (.iload 7, 2) := by decide +kernel
theorem dX11_holder_29 : decode cX11_holder 29 = .ok (.ifCond .eq 216, 3) := by decide +kernel
theorem dX11_holder_32 : decode cX11_holder 32 = .ok (.iconst (-1), 1) := by decide +kernel
theorem dX11_holder_33 : decode cX11_holder 33 = .ok (.istore 8, 2) := by decide +kernel
theorem dX11_holder_35 : decode cX11_holder 35 = .ok (.iconst 0, 1) := by decide +kernel
theorem dX11_holder_36 : decode cX11_holder 36 = .ok (.istore 9, 2) := by decide +kernel
theorem dX11_holder_38 : decode cX11_holder 38 = .ok (.iload 9, 2) := by decide +kernel
theorem dX11_holder_40 : decode cX11_holder 40 = .ok (.aload_n 0, 1) := by decide +kernel
theorem dX11_holder_41 : decode cX11_holder 41 = .ok (.getfield 370, 3) := by decide +kernel
theorem dX11_holder_44 : decode cX11_holder 44 = .ok (.if_icmp .ge 144, 3) := by decide +kernel
theorem dX11_holder_47 : decode cX11_holder 47 = .ok (.aload_n 0, 1) := by decide +kernel
theorem dX11_holder_48 : decode cX11_holder 48 = .ok (.getfield 142, 3) := by decide +kernel
theorem dX11_holder_51 : decode cX11_holder 51 = .ok (.iload 9, 2) := by decide +kernel
theorem dX11_holder_53 : decode cX11_holder 53 = .ok (.iaload, 1) := by decide +kernel
theorem dX11_holder_54 : decode cX11_holder 54 = .ok (.iload_n 1, 1) := by decide +kernel
theorem dX11_holder_55 : decode cX11_holder 55 = .ok (.if_icmp .ne 50, 3) := by decide +kernel
theorem dX11_holder_58 : decode cX11_holder 58 = .ok (.aload_n 0, 1) := by decide +kernel
theorem dX11_holder_59 : decode cX11_holder 59 = .ok (.getfield 151, 3) := by decide +kernel
theorem dX11_holder_62 : decode cX11_holder 62 = .ok (.iload 9, 2) := by decide +kernel
theorem dX11_holder_64 : decode cX11_holder 64 = .ok (.iaload, 1) := by decide +kernel
theorem dX11_holder_65 : decode cX11_holder 65 = .ok (.iload_n 2, 1) := by decide +kernel
theorem dX11_holder_66 : decode cX11_holder 66 = .ok (.if_icmp .gt 39, 3) := by decide +kernel
theorem dX11_holder_69 : decode cX11_holder 69 = .ok (.aload_n 0, 1) := by decide +kernel
theorem dX11_holder_70 : decode cX11_holder 70 = .ok (.getfield 154, 3) := by decide +kernel
theorem dX11_holder_73 : decode cX11_holder 73 = .ok (.iload 9, 2) := by decide +kernel
theorem dX11_holder_75 : decode cX11_holder 75 = .ok (.iaload, 1) := by decide +kernel
theorem dX11_holder_76 : decode cX11_holder 76 = .ok (.iload_n 3, 1) := by decide +kernel
theorem dX11_holder_77 : decode cX11_holder 77 = .ok (.if_icmp .gt 28, 3) := by decide +kernel
theorem dX11_holder_80 : decode cX11_holder 80 = .ok (.aload_n 0, 1) := by decide +kernel
theorem dX11_holder_81 : decode cX11_holder 81 = .ok (.getfield 157, 3) := by decide +kernel
theorem dX11_holder_84 : decode cX11_holder 84 = .ok (.iload 9, 2) := by decide +kernel
theorem dX11_holder_86 : decode cX11_holder 86 = .ok (.iaload, 1) := by decide +kernel
theorem dX11_holder_87 : decode cX11_holder 87 = .ok (.ifCond .lt 14, 3) := by decide +kernel
theorem dX11_holder_90 : decode cX11_holder 90 = .ok (.aload_n 0, 1) := by decide +kernel
theorem dX11_holder_91 : decode cX11_holder 91 = .ok (.getfield 157, 3) := by decide +kernel
theorem dX11_holder_94 : decode cX11_holder 94 = .ok (.iload 9, 2) := by decide +kernel
theorem dX11_holder_96 : decode cX11_holder 96 = .ok (.iaload, 1) := by decide +kernel
theorem dX11_holder_97 : decode cX11_holder 97 = .ok (.iload_n 3, 1) := by decide +kernel
theorem dX11_holder_98 : decode cX11_holder 98 = .ok (.if_icmp .le 7, 3) := by decide +kernel
theorem dX11_holder_101 : decode cX11_holder 101 = .ok (.iconst 1, 1) := by decide +kernel
theorem dX11_holder_102 : decode cX11_holder 102 = .ok (.goto 4, 3) := by decide +kernel
theorem dX11_holder_105 : decode cX11_holder 105 = .ok (.iconst 0, 1) := by decide +kernel
theorem dX11_holder_106 : decode cX11_holder 106 = .ok (.istore 10, 2) := by decide +kernel
theorem dX11_holder_108 : decode cX11_holder 108 = .ok (.aload_n 0, 1) := by decide +kernel
theorem dX11_holder_109 : decode cX11_holder 109 = .ok (.getfield 151, 3) := by decide +kernel
theorem dX11_holder_112 : decode cX11_holder 112 = .ok (.iload 9, 2) := by decide +kernel
theorem dX11_holder_114 : decode cX11_holder 114 = .ok (.iaload, 1) := by decide +kernel
theorem dX11_holder_115 : decode cX11_holder 115 = .ok (.iload 5, 2) := by decide +kernel
theorem dX11_holder_117 : decode cX11_holder 117 = .ok (.if_icmp .gt 22, 3) := by decide +kernel
theorem dX11_holder_120 : decode cX11_holder 120 = .ok (.aload_n 0, 1) := by decide +kernel
theorem dX11_holder_121 : decode cX11_holder 121 = .ok (.getfield 151, 3) := by decide +kernel
theorem dX11_holder_124 : decode cX11_holder 124 = .ok (.iload 9, 2) := by decide +kernel
theorem dX11_holder_126 : decode cX11_holder 126 = .ok (.iaload, 1) := by decide +kernel
theorem dX11_holder_127 : decode cX11_holder 127 = .ok (.iload 5, 2) := by decide +kernel
theorem dX11_holder_129 : decode cX11_holder 129 = .ok (.if_icmp .ne 14, 3) := by decide +kernel
theorem dX11_holder_132 : decode cX11_holder 132 = .ok (.iload 9, 2) := by decide +kernel
theorem dX11_holder_134 : decode cX11_holder 134 = .ok (.iload 6, 2) := by decide +kernel
theorem dX11_holder_136 : decode cX11_holder 136 = .ok (.if_icmp .le 7, 3) := by decide +kernel
theorem dX11_holder_139 : decode cX11_holder 139 = .ok (.iconst 1, 1) := by decide +kernel
theorem dX11_holder_140 : decode cX11_holder 140 = .ok (.goto 4, 3) := by decide +kernel
theorem dX11_holder_143 : decode cX11_holder 143 = .ok (.iconst 0, 1) := by decide +kernel
theorem dX11_holder_144 : decode cX11_holder 144 = .ok (.istore 11, 2) := by decide +kernel
theorem dX11_holder_146 : decode cX11_holder 146 = .ok (.iload 10, 2) := by decide +kernel
theorem dX11_holder_148 : decode cX11_holder 148 = .ok (.ifCond .eq 34, 3) := by decide +kernel
theorem dX11_holder_151 : decode cX11_holder 151 = .ok (.iload 11, 2) := by decide +kernel
theorem dX11_holder_153 : decode cX11_holder 153 = .ok (.ifCond .eq 29, 3) := by decide +kernel
theorem dX11_holder_156 : decode cX11_holder 156 = .ok (.iload 8, 2) := by decide +kernel
theorem dX11_holder_158 : decode cX11_holder 158 = .ok (.ifCond .lt 20, 3) := by decide +kernel
theorem dX11_holder_161 : decode cX11_holder 161 = .ok (.aload_n 0, 1) := by decide +kernel
theorem dX11_holder_162 : decode cX11_holder 162 = .ok (.getfield 151, 3) := by decide +kernel
theorem dX11_holder_165 : decode cX11_holder 165 = .ok (.iload 9, 2) := by decide +kernel
theorem dX11_holder_167 : decode cX11_holder 167 = .ok (.iaload, 1) := by decide +kernel
theorem dX11_holder_168 : decode cX11_holder 168 = .ok (.aload_n 0, 1) := by decide +kernel
theorem dX11_holder_169 : decode cX11_holder 169 = .ok (.getfield 151, 3) := by decide +kernel
theorem dX11_holder_172 : decode cX11_holder 172 = .ok (.iload 8, 2) := by decide +kernel
theorem dX11_holder_174 : decode cX11_holder 174 = .ok (.iaload, 1) := by decide +kernel
theorem dX11_holder_175 : decode cX11_holder 175 = .ok (.if_icmp .ge 7, 3) := by decide +kernel
theorem dX11_holder_178 : decode cX11_holder 178 = .ok (.iload 9, 2) := by decide +kernel
theorem dX11_holder_180 : decode cX11_holder 180 = .ok (.istore 8, 2) := by decide +kernel
theorem dX11_holder_182 : decode cX11_holder 182 = .ok (.iinc 9 1, 3) := by decide +kernel
theorem dX11_holder_185 : decode cX11_holder 185 = .ok (.goto (-147), 3) := by decide +kernel
theorem dX11_holder_188 : decode cX11_holder 188 = .ok (.iload 8, 2) := by decide +kernel
theorem dX11_holder_190 : decode cX11_holder 190 = .ok (.ifCond .lt 7, 3) := by decide +kernel
theorem dX11_holder_193 : decode cX11_holder 193 = .ok (.iconst 1, 1) := by decide +kernel
theorem dX11_holder_194 : decode cX11_holder 194 = .ok (.goto 4, 3) := by decide +kernel
theorem dX11_holder_197 : decode cX11_holder 197 = .ok (.iconst 0, 1) := by decide +kernel
theorem dX11_holder_198 : decode cX11_holder 198 = .ok (.istore 7, 2) := by decide +kernel
theorem dX11_holder_200 : decode cX11_holder 200 = .ok (.iload 7, 2) := by decide +kernel
theorem dX11_holder_202 : decode cX11_holder 202 = .ok (.ifCond .ne 6, 3) := by decide +kernel
theorem dX11_holder_205 : decode cX11_holder 205 = .ok (.goto (-178), 3) := by decide +kernel
theorem dX11_holder_208 : decode cX11_holder 208 = .ok (.aload_n 0, 1) := by decide +kernel
theorem dX11_holder_209 : decode cX11_holder 209 = .ok (.getfield 145, 3) := by decide +kernel
theorem dX11_holder_212 : decode cX11_holder 212 = .ok (.iload 8, 2) := by decide +kernel
theorem dX11_holder_214 : decode cX11_holder 214 = .ok (.iaload, 1) := by decide +kernel
theorem dX11_holder_215 : decode cX11_holder 215 = .ok (.iload 4, 2) := by decide +kernel
theorem dX11_holder_217 : decode cX11_holder 217 = .ok (.if_icmp .ne 12, 3) := by decide +kernel
theorem dX11_holder_220 : decode cX11_holder 220 = .ok (.aload_n 0, 1) := by decide +kernel
theorem dX11_holder_221 : decode cX11_holder 221 = .ok (.getfield 148, 3) := by decide +kernel
theorem dX11_holder_224 : decode cX11_holder 224 = .ok (.iload 8, 2) := by decide +kernel
theorem dX11_holder_226 : decode cX11_holder 226 = .ok (.iaload, 1) := by decide +kernel
theorem dX11_holder_227 : decode cX11_holder 227 = .ok (.istore 4, 2) := by decide +kernel
theorem dX11_holder_229 : decode cX11_holder 229 = .ok (.aload_n 0, 1) := by decide +kernel
theorem dX11_holder_230 : decode cX11_holder 230 = .ok (.getfield 151, 3) := by decide +kernel
theorem dX11_holder_233 : decode cX11_holder 233 = .ok (.iload 8, 2) := by decide +kernel
theorem dX11_holder_235 : decode cX11_holder 235 = .ok (.iaload, 1) := by decide +kernel
theorem dX11_holder_236 : decode cX11_holder 236 = .ok (.istore 5, 2) := by decide +kernel
theorem dX11_holder_238 : decode cX11_holder 238 = .ok (.iload 8, 2) := by decide +kernel
theorem dX11_holder_240 : decode cX11_holder 240 = .ok (.istore 6, 2) := by decide +kernel
theorem dX11_holder_242 : decode cX11_holder 242 = .ok (.goto (-215), 3) := by decide +kernel
theorem dX11_holder_245 : decode cX11_holder 245 = .ok (.iload 4, 2) := by decide +kernel
theorem dX11_holder_247 : decode cX11_holder 247 = .ok (.ireturn, 1) := by decide +kernel
theorem dX11_pay_0 : decode cX11_pay 0 = .ok (.aload_n 0, 1) := by decide +kernel
theorem dX11_pay_1 : decode cX11_pay 1 = .ok (.iload_n 1, 1) := by decide +kernel
theorem dX11_pay_2 : decode cX11_pay 2 = .ok (.invokevirtual 373, 3) := by decide +kernel
theorem dX11_pay_5 : decode cX11_pay 5 = .ok (.ifCond .eq 25, 3) := by decide +kernel
theorem dX11_pay_8 : decode cX11_pay 8 = .ok (.aload_n 0, 1) := by decide +kernel
theorem dX11_pay_9 : decode cX11_pay 9 = .ok (.getfield 178, 3) := by decide +kernel
theorem dX11_pay_12 : decode cX11_pay 12 = .ok (.aload_n 0, 1) := by decide +kernel
theorem dX11_pay_13 : decode cX11_pay 13 = .ok (.getfield 133, 3) := by decide +kernel
theorem dX11_pay_16 : decode cX11_pay 16 = .ok (.iload_n 1, 1) := by decide +kernel
theorem dX11_pay_17 : decode cX11_pay 17 = .ok (.iaload, 1) := by decide +kernel
theorem dX11_pay_18 : decode cX11_pay 18 = .ok (.if_icmp .lt 12, 3) := by decide +kernel
theorem dX11_pay_21 : decode cX11_pay 21 = .ok (.aload_n 0, 1) := by decide +kernel
theorem dX11_pay_22 : decode cX11_pay 22 = .ok (.getfield 136, 3) := by decide +kernel
theorem dX11_pay_25 : decode cX11_pay 25 = .ok (.iload_n 1, 1) := by decide +kernel
theorem dX11_pay_26 : decode cX11_pay 26 = .ok (.iaload, 1) := by decide +kernel
theorem dX11_pay_27 : decode cX11_pay 27 = .ok (.ifCond .lt 5, 3) := by decide +kernel
theorem dX11_pay_30 : decode cX11_pay 30 = .ok (.iconst (-1), 1) := by decide +kernel
theorem dX11_pay_31 : decode cX11_pay 31 = .ok (.ireturn, 1) := by decide +kernel
theorem dX11_pay_32 : decode cX11_pay 32 = .ok (.aload_n 0, 1) := by decide +kernel
theorem dX11_pay_33 : decode cX11_pay 33 = .ok (.getfield 136, 3) := by decide +kernel
theorem dX11_pay_36 : decode cX11_pay 36 = .ok (.iload_n 1, 1) := by decide +kernel
theorem dX11_pay_37 : decode cX11_pay 37 = .ok (.aload_n 0, 1) := by decide +kernel
theorem dX11_pay_38 : decode cX11_pay 38 = .ok (.getfield 178, 3) := by decide +kernel
theorem dX11_pay_41 : decode cX11_pay 41 = .ok (.iastore, 1) := by decide +kernel
theorem dX11_pay_42 : decode cX11_pay 42 = .ok (.aload_n 0, 1) := by decide +kernel
theorem dX11_pay_43 : decode cX11_pay 43 = .ok (.getfield 139, 3) := by decide +kernel
theorem dX11_pay_46 : decode cX11_pay 46 = .ok (.iload_n 1, 1) := by decide +kernel
theorem dX11_pay_47 : decode cX11_pay 47 = .ok (.aload_n 0, 1) := by decide +kernel
theorem dX11_pay_48 : decode cX11_pay 48 = .ok (.iload_n 1, 1) := by decide +kernel
theorem dX11_pay_49 : decode cX11_pay 49 = .ok (.aload_n 0, 1) := by decide +kernel
theorem dX11_pay_50 : decode cX11_pay 50 = .ok (.getfield 178, 3) := by decide +kernel
theorem dX11_pay_53 : decode cX11_pay 53 = .ok (.aload_n 0, 1) := by decide +kernel
theorem dX11_pay_54 : decode cX11_pay 54 = .ok (.getfield 178, 3) := by decide +kernel
theorem dX11_pay_57 : decode cX11_pay 57 = .ok (.invokevirtual 376, 3) := by decide +kernel
theorem dX11_pay_60 : decode cX11_pay 60 = .ok (.iastore, 1) := by decide +kernel
theorem dX11_pay_61 : decode cX11_pay 61 = .ok (.aload_n 0, 1) := by decide +kernel
theorem dX11_pay_62 : decode cX11_pay 62 = .ok (.getfield 139, 3) := by decide +kernel
theorem dX11_pay_65 : decode cX11_pay 65 = .ok (.iload_n 1, 1) := by decide +kernel
theorem dX11_pay_66 : decode cX11_pay 66 = .ok (.iaload, 1) := by decide +kernel
theorem dX11_pay_67 : decode cX11_pay 67 = .ok (.ireturn, 1) := by decide +kernel
theorem dX11_paid_0 : decode cX11_paid 0 = .ok (.aload_n 0, 1) := by decide +kernel
theorem dX11_paid_1 : decode cX11_paid 1 = .ok (.iload_n 1, 1) := by decide +kernel
theorem dX11_paid_2 : decode cX11_paid 2 = .ok (.invokevirtual 373, 3) := by decide +kernel
theorem dX11_paid_5 : decode cX11_paid 5 = .ok (.ifCond .ne 5, 3) := by decide +kernel
theorem dX11_paid_8 : decode cX11_paid 8 = .ok (.iconst (-1), 1) := by decide +kernel
theorem dX11_paid_9 : decode cX11_paid 9 = .ok (.ireturn, 1) := by decide +kernel
theorem dX11_paid_10 : decode cX11_paid 10 = .ok (.iload_n 2, 1) := by decide +kernel
theorem dX11_paid_11 : decode cX11_paid 11 = .ok (.ifCond .ne 12, 3) := by decide +kernel
theorem dX11_paid_14 : decode cX11_paid 14 = .ok (.aload_n 0, 1) := by decide +kernel
theorem dX11_paid_15 : decode cX11_paid 15 = .ok (.getfield 127, 3) := by decide +kernel
theorem dX11_paid_18 : decode cX11_paid 18 = .ok (.iload_n 1, 1) := by decide +kernel
theorem dX11_paid_19 : decode cX11_paid 19 = .ok (.iaload, 1) := by decide +kernel
theorem dX11_paid_20 : decode cX11_paid 20 = .ok (.goto 32, 3) := by decide +kernel
theorem dX11_paid_23 : decode cX11_paid 23 = .ok (.iload_n 2, 1) := by decide +kernel
theorem dX11_paid_24 : decode cX11_paid 24 = .ok (.iconst 1, 1) := by decide +kernel
theorem dX11_paid_25 : decode cX11_paid 25 = .ok (.if_icmp .ne 12, 3) := by decide +kernel
theorem dX11_paid_28 : decode cX11_paid 28 = .ok (.aload_n 0, 1) := by decide +kernel
theorem dX11_paid_29 : decode cX11_paid 29 = .ok (.getfield 136, 3) := by decide +kernel
theorem dX11_paid_32 : decode cX11_paid 32 = .ok (.iload_n 1, 1) := by decide +kernel
theorem dX11_paid_33 : decode cX11_paid 33 = .ok (.iaload, 1) := by decide +kernel
theorem dX11_paid_34 : decode cX11_paid 34 = .ok (.goto 18, 3) := by decide +kernel
theorem dX11_paid_37 : decode cX11_paid 37 = .ok (.iload_n 2, 1) := by decide +kernel
theorem dX11_paid_38 : decode cX11_paid 38 = .ok (.iconst 2, 1) := by decide +kernel
theorem dX11_paid_39 : decode cX11_paid 39 = .ok (.if_icmp .ne 12, 3) := by decide +kernel
theorem dX11_paid_42 : decode cX11_paid 42 = .ok (.aload_n 0, 1) := by decide +kernel
theorem dX11_paid_43 : decode cX11_paid 43 = .ok (.getfield 139, 3) := by decide +kernel
theorem dX11_paid_46 : decode cX11_paid 46 = .ok (.iload_n 1, 1) := by decide +kernel
theorem dX11_paid_47 : decode cX11_paid 47 = .ok (.iaload, 1) := by decide +kernel
theorem dX11_paid_48 : decode cX11_paid 48 = .ok (.goto 4, 3) := by decide +kernel
theorem dX11_paid_51 : decode cX11_paid 51 = .ok (.iconst (-1), 1) := by decide +kernel
theorem dX11_paid_52 : decode cX11_paid 52 = .ok (.ireturn, 1) := by decide +kernel
theorem dX11_about_0 : decode cX11_about 0 = .ok (.iload_n 1, 1) := by decide +kernel
theorem dX11_about_1 : decode cX11_about 1 = .ok (.tableswitch 78 0 6 #[43, 48, 53, 58, 63, 68, 73], 43) := by decide +kernel
theorem dX11_about_44 : decode cX11_about 44 = .ok (.aload_n 0, 1) := by decide +kernel
theorem dX11_about_45 : decode cX11_about 45 = .ok (.getfield 178, 3) := by decide +kernel
theorem dX11_about_48 : decode cX11_about 48 = .ok (.ireturn, 1) := by decide +kernel
theorem dX11_about_49 : decode cX11_about 49 = .ok (.aload_n 0, 1) := by decide +kernel
theorem dX11_about_50 : decode cX11_about 50 = .ok (.getfield 7, 3) := by decide +kernel
theorem dX11_about_53 : decode cX11_about 53 = .ok (.ireturn, 1) := by decide +kernel
theorem dX11_about_54 : decode cX11_about 54 = .ok (.aload_n 0, 1) := by decide +kernel
theorem dX11_about_55 : decode cX11_about 55 = .ok (.getfield 160, 3) := by decide +kernel
theorem dX11_about_58 : decode cX11_about 58 = .ok (.ireturn, 1) := by decide +kernel
theorem dX11_about_59 : decode cX11_about 59 = .ok (.aload_n 0, 1) := by decide +kernel
theorem dX11_about_60 : decode cX11_about 60 = .ok (.getfield 175, 3) := by decide +kernel
theorem dX11_about_63 : decode cX11_about 63 = .ok (.ireturn, 1) := by decide +kernel
theorem dX11_about_64 : decode cX11_about 64 = .ok (.aload_n 0, 1) := by decide +kernel
theorem dX11_about_65 : decode cX11_about 65 = .ok (.getfield 363, 3) := by decide +kernel
theorem dX11_about_68 : decode cX11_about 68 = .ok (.ireturn, 1) := by decide +kernel
theorem dX11_about_69 : decode cX11_about 69 = .ok (.aload_n 0, 1) := by decide +kernel
theorem dX11_about_70 : decode cX11_about 70 = .ok (.getfield 370, 3) := by decide +kernel
theorem dX11_about_73 : decode cX11_about 73 = .ok (.ireturn, 1) := by decide +kernel
theorem dX11_about_74 : decode cX11_about 74 = .ok (.aload_n 0, 1) := by decide +kernel
theorem dX11_about_75 : decode cX11_about 75 = .ok (.getfield 192, 3) := by decide +kernel
theorem dX11_about_78 : decode cX11_about 78 = .ok (.ireturn, 1) := by decide +kernel
theorem dX11_about_79 : decode cX11_about 79 = .ok (.iconst (-1), 1) := by decide +kernel
theorem dX11_about_80 : decode cX11_about 80 = .ok (.ireturn, 1) := by decide +kernel
theorem dJ11_isValidCodePoint_9a6ad_0 : decode cJ11_isValidCodePoint_9a6ad 0 = .ok (.iload_n 0, 1) := by decide +kernel
theorem dJ11_isValidCodePoint_9a6ad_1 : decode cJ11_isValidCodePoint_9a6ad 1 = .ok (.bipush 16, 2) := by decide +kernel
theorem dJ11_isValidCodePoint_9a6ad_3 : decode cJ11_isValidCodePoint_9a6ad 3 = .ok (.iushr, 1) := by decide +kernel
theorem dJ11_isValidCodePoint_9a6ad_4 : decode cJ11_isValidCodePoint_9a6ad 4 = .ok (.istore_n 1, 1) := by decide +kernel
theorem dJ11_isValidCodePoint_9a6ad_5 : decode cJ11_isValidCodePoint_9a6ad 5 = .ok (.iload_n 1, 1) := by decide +kernel
theorem dJ11_isValidCodePoint_9a6ad_6 : decode cJ11_isValidCodePoint_9a6ad 6 = .ok (.bipush 17, 2) := by decide +kernel
theorem dJ11_isValidCodePoint_9a6ad_8 : decode cJ11_isValidCodePoint_9a6ad 8 = .ok (.if_icmp .ge 7, 3) := by decide +kernel
theorem dJ11_isValidCodePoint_9a6ad_11 : decode cJ11_isValidCodePoint_9a6ad 11 = .ok (.iconst 1, 1) := by decide +kernel
theorem dJ11_isValidCodePoint_9a6ad_12 : decode cJ11_isValidCodePoint_9a6ad 12 = .ok (.goto 4, 3) := by decide +kernel
theorem dJ11_isValidCodePoint_9a6ad_15 : decode cJ11_isValidCodePoint_9a6ad 15 = .ok (.iconst 0, 1) := by decide +kernel
theorem dJ11_isValidCodePoint_9a6ad_16 : decode cJ11_isValidCodePoint_9a6ad 16 = .ok (.ireturn, 1) := by decide +kernel
theorem dJ11_highSurrogate_5068e_0 : decode cJ11_highSurrogate_5068e 0 = .ok (.iload_n 0, 1) := by decide +kernel
theorem dJ11_highSurrogate_5068e_1 : decode cJ11_highSurrogate_5068e 1 = .ok (.bipush 10, 2) := by decide +kernel
theorem dJ11_highSurrogate_5068e_3 : decode cJ11_highSurrogate_5068e 3 = .ok (.iushr, 1) := by decide +kernel
theorem dJ11_highSurrogate_5068e_4 : decode cJ11_highSurrogate_5068e 4 = .ok (.ldc 110, 2) := by decide +kernel
theorem dJ11_highSurrogate_5068e_6 : decode cJ11_highSurrogate_5068e 6 = .ok (.iadd, 1) := by decide +kernel
theorem dJ11_highSurrogate_5068e_7 : decode cJ11_highSurrogate_5068e 7 = .ok (.i2c, 1) := by decide +kernel
theorem dJ11_highSurrogate_5068e_8 : decode cJ11_highSurrogate_5068e 8 = .ok (.ireturn, 1) := by decide +kernel
theorem dJ11_lowSurrogate_5068e_0 : decode cJ11_lowSurrogate_5068e 0 = .ok (.iload_n 0, 1) := by decide +kernel
theorem dJ11_lowSurrogate_5068e_1 : decode cJ11_lowSurrogate_5068e 1 = .ok (.sipush 1023, 3) := by decide +kernel
theorem dJ11_lowSurrogate_5068e_4 : decode cJ11_lowSurrogate_5068e 4 = .ok (.iand, 1) := by decide +kernel
theorem dJ11_lowSurrogate_5068e_5 : decode cJ11_lowSurrogate_5068e 5 = .ok (.ldc 76, 2) := by decide +kernel
theorem dJ11_lowSurrogate_5068e_7 : decode cJ11_lowSurrogate_5068e 7 = .ok (.iadd, 1) := by decide +kernel
theorem dJ11_lowSurrogate_5068e_8 : decode cJ11_lowSurrogate_5068e 8 = .ok (.i2c, 1) := by decide +kernel
theorem dJ11_lowSurrogate_5068e_9 : decode cJ11_lowSurrogate_5068e 9 = .ok (.ireturn, 1) := by decide +kernel
theorem dJ9_max_7cf53_0 : decode cJ9_max_7cf53 0 = .ok (.iload_n 0, 1) := by decide +kernel
theorem dJ9_max_7cf53_1 : decode cJ9_max_7cf53 1 = .ok (.iload_n 1, 1) := by decide +kernel
theorem dJ9_max_7cf53_2 : decode cJ9_max_7cf53 2 = .ok (.if_icmp .lt 7, 3) := by decide +kernel
theorem dJ9_max_7cf53_5 : decode cJ9_max_7cf53 5 = .ok (.iload_n 0, 1) := by decide +kernel
theorem dJ9_max_7cf53_6 : decode cJ9_max_7cf53 6 = .ok (.goto 4, 3) := by decide +kernel
theorem dJ9_max_7cf53_9 : decode cJ9_max_7cf53 9 = .ok (.iload_n 1, 1) := by decide +kernel
theorem dJ9_max_7cf53_10 : decode cJ9_max_7cf53 10 = .ok (.ireturn, 1) := by decide +kernel
theorem dJ9_min_7cf53_0 : decode cJ9_min_7cf53 0 = .ok (.iload_n 0, 1) := by decide +kernel
theorem dJ9_min_7cf53_1 : decode cJ9_min_7cf53 1 = .ok (.iload_n 1, 1) := by decide +kernel
theorem dJ9_min_7cf53_2 : decode cJ9_min_7cf53 2 = .ok (.if_icmp .gt 7, 3) := by decide +kernel
theorem dJ9_min_7cf53_5 : decode cJ9_min_7cf53 5 = .ok (.iload_n 0, 1) := by decide +kernel
theorem dJ9_min_7cf53_6 : decode cJ9_min_7cf53 6 = .ok (.goto 4, 3) := by decide +kernel
theorem dJ9_min_7cf53_9 : decode cJ9_min_7cf53 9 = .ok (.iload_n 1, 1) := by decide +kernel
theorem dJ9_min_7cf53_10 : decode cJ9_min_7cf53 10 = .ok (.ireturn, 1) := by decide +kernel
theorem dJ0_length_8abf5_0 : decode cJ0_length_8abf5 0 = .ok (.aload_n 0, 1) := by decide +kernel
theorem dJ0_length_8abf5_1 : decode cJ0_length_8abf5 1 = .ok (.getfield 9, 3) := by decide +kernel
theorem dJ0_length_8abf5_4 : decode cJ0_length_8abf5 4 = .ok (.arraylength, 1) := by decide +kernel
theorem dJ0_length_8abf5_5 : decode cJ0_length_8abf5 5 = .ok (.aload_n 0, 1) := by decide +kernel
theorem dJ0_length_8abf5_6 : decode cJ0_length_8abf5 6 = .ok (.invokevirtual 335, 3) := by decide +kernel
theorem dJ0_length_8abf5_9 : decode cJ0_length_8abf5 9 = .ok (.ishr, 1) := by decide +kernel
theorem dJ0_length_8abf5_10 : decode cJ0_length_8abf5 10 = .ok (.ireturn, 1) := by decide +kernel
theorem dJ0_charAt_5068e_0 : decode cJ0_charAt_5068e 0 = .ok (.aload_n 0, 1) := by decide +kernel
theorem dJ0_charAt_5068e_1 : decode cJ0_charAt_5068e 1 = .ok (.invokevirtual 492, 3) := by decide +kernel
theorem dJ0_charAt_5068e_4 : decode cJ0_charAt_5068e 4 = .ok (.ifCond .eq 12, 3) := by decide +kernel
theorem dJ0_charAt_5068e_7 : decode cJ0_charAt_5068e 7 = .ok (.aload_n 0, 1) := by decide +kernel
theorem dJ0_charAt_5068e_8 : decode cJ0_charAt_5068e 8 = .ok (.getfield 9, 3) := by decide +kernel
theorem dJ0_charAt_5068e_11 : decode cJ0_charAt_5068e 11 = .ok (.iload_n 1, 1) := by decide +kernel
theorem dJ0_charAt_5068e_12 : decode cJ0_charAt_5068e 12 = .ok (.invokestatic 495, 3) := by decide +kernel
theorem dJ0_charAt_5068e_15 : decode cJ0_charAt_5068e 15 = .ok (.ireturn, 1) := by decide +kernel
theorem dJ0_charAt_5068e_16 : decode cJ0_charAt_5068e 16 = .ok (.aload_n 0, 1) := by decide +kernel
theorem dJ0_charAt_5068e_17 : decode cJ0_charAt_5068e 17 = .ok (.getfield 9, 3) := by decide +kernel
theorem dJ0_charAt_5068e_20 : decode cJ0_charAt_5068e 20 = .ok (.iload_n 1, 1) := by decide +kernel
theorem dJ0_charAt_5068e_21 : decode cJ0_charAt_5068e 21 = .ok (.invokestatic 498, 3) := by decide +kernel
theorem dJ0_charAt_5068e_24 : decode cJ0_charAt_5068e 24 = .ok (.ireturn, 1) := by decide +kernel
theorem dJ0_indexOf_0f7a4_0 : decode cJ0_indexOf_0f7a4 0 = .ok (.aload_n 0, 1) := by decide +kernel
theorem dJ0_indexOf_0f7a4_1 : decode cJ0_indexOf_0f7a4 1 = .ok (.iload_n 1, 1) := by decide +kernel
theorem dJ0_indexOf_0f7a4_2 : decode cJ0_indexOf_0f7a4 2 = .ok (.iconst 0, 1) := by decide +kernel
theorem dJ0_indexOf_0f7a4_3 : decode cJ0_indexOf_0f7a4 3 = .ok (.invokevirtual 633, 3) := by decide +kernel
theorem dJ0_indexOf_0f7a4_6 : decode cJ0_indexOf_0f7a4 6 = .ok (.ireturn, 1) := by decide +kernel
theorem dJ0_indexOf_7cf53_0 : decode cJ0_indexOf_7cf53 0 = .ok (.aload_n 0, 1) := by decide +kernel
theorem dJ0_indexOf_7cf53_1 : decode cJ0_indexOf_7cf53 1 = .ok (.invokevirtual 492, 3) := by decide +kernel
theorem dJ0_indexOf_7cf53_4 : decode cJ0_indexOf_7cf53 4 = .ok (.ifCond .eq 19, 3) := by decide +kernel
theorem dJ0_indexOf_7cf53_7 : decode cJ0_indexOf_7cf53 7 = .ok (.aload_n 0, 1) := by decide +kernel
theorem dJ0_indexOf_7cf53_8 : decode cJ0_indexOf_7cf53 8 = .ok (.getfield 9, 3) := by decide +kernel
theorem dJ0_indexOf_7cf53_11 : decode cJ0_indexOf_7cf53 11 = .ok (.iload_n 1, 1) := by decide +kernel
theorem dJ0_indexOf_7cf53_12 : decode cJ0_indexOf_7cf53 12 = .ok (.iload_n 2, 1) := by decide +kernel
theorem dJ0_indexOf_7cf53_13 : decode cJ0_indexOf_7cf53 13 = .ok (.aload_n 0, 1) := by decide +kernel
theorem dJ0_indexOf_7cf53_14 : decode cJ0_indexOf_7cf53 14 = .ok (.invokevirtual 505, 3) := by decide +kernel
theorem dJ0_indexOf_7cf53_17 : decode cJ0_indexOf_7cf53 17 = .ok (.invokestatic 637, 3) := by decide +kernel
theorem dJ0_indexOf_7cf53_20 : decode cJ0_indexOf_7cf53 20 = .ok (.goto 16, 3) := by decide +kernel
theorem dJ0_indexOf_7cf53_23 : decode cJ0_indexOf_7cf53 23 = .ok (.aload_n 0, 1) := by decide +kernel
theorem dJ0_indexOf_7cf53_24 : decode cJ0_indexOf_7cf53 24 = .ok (.getfield 9, 3) := by decide +kernel
theorem dJ0_indexOf_7cf53_27 : decode cJ0_indexOf_7cf53 27 = .ok (.iload_n 1, 1) := by decide +kernel
theorem dJ0_indexOf_7cf53_28 : decode cJ0_indexOf_7cf53 28 = .ok (.iload_n 2, 1) := by decide +kernel
theorem dJ0_indexOf_7cf53_29 : decode cJ0_indexOf_7cf53 29 = .ok (.aload_n 0, 1) := by decide +kernel
theorem dJ0_indexOf_7cf53_30 : decode cJ0_indexOf_7cf53 30 = .ok (.invokevirtual 505, 3) := by decide +kernel
theorem dJ0_indexOf_7cf53_33 : decode cJ0_indexOf_7cf53 33 = .ok (.invokestatic 640, 3) := by decide +kernel
theorem dJ0_indexOf_7cf53_36 : decode cJ0_indexOf_7cf53 36 = .ok (.ireturn, 1) := by decide +kernel
theorem dJ0_coder_7d493_0 : decode cJ0_coder_7d493 0 = .ok (.getstatic 38, 3) := by decide +kernel
theorem dJ0_coder_7d493_3 : decode cJ0_coder_7d493 3 = .ok (.ifCond .eq 10, 3) := by decide +kernel
theorem dJ0_coder_7d493_6 : decode cJ0_coder_7d493 6 = .ok (.aload_n 0, 1) := by decide +kernel
theorem dJ0_coder_7d493_7 : decode cJ0_coder_7d493 7 = .ok (.getfield 15, 3) := by decide +kernel
theorem dJ0_coder_7d493_10 : decode cJ0_coder_7d493 10 = .ok (.goto 4, 3) := by decide +kernel
theorem dJ0_coder_7d493_13 : decode cJ0_coder_7d493 13 = .ok (.iconst 1, 1) := by decide +kernel
theorem dJ0_coder_7d493_14 : decode cJ0_coder_7d493 14 = .ok (.ireturn, 1) := by decide +kernel
theorem dJ0_isLatin1_aae02_0 : decode cJ0_isLatin1_aae02 0 = .ok (.getstatic 38, 3) := by decide +kernel
theorem dJ0_isLatin1_aae02_3 : decode cJ0_isLatin1_aae02 3 = .ok (.ifCond .eq 14, 3) := by decide +kernel
theorem dJ0_isLatin1_aae02_6 : decode cJ0_isLatin1_aae02 6 = .ok (.aload_n 0, 1) := by decide +kernel
theorem dJ0_isLatin1_aae02_7 : decode cJ0_isLatin1_aae02 7 = .ok (.getfield 15, 3) := by decide +kernel
theorem dJ0_isLatin1_aae02_10 : decode cJ0_isLatin1_aae02 10 = .ok (.ifCond .ne 7, 3) := by decide +kernel
theorem dJ0_isLatin1_aae02_13 : decode cJ0_isLatin1_aae02 13 = .ok (.iconst 1, 1) := by decide +kernel
theorem dJ0_isLatin1_aae02_14 : decode cJ0_isLatin1_aae02 14 = .ok (.goto 4, 3) := by decide +kernel
theorem dJ0_isLatin1_aae02_17 : decode cJ0_isLatin1_aae02 17 = .ok (.iconst 0, 1) := by decide +kernel
theorem dJ0_isLatin1_aae02_18 : decode cJ0_isLatin1_aae02 18 = .ok (.ireturn, 1) := by decide +kernel
theorem dJ0_checkIndex_df160_0 : decode cJ0_checkIndex_df160 0 = .ok (.iload_n 0, 1) := by decide +kernel
theorem dJ0_checkIndex_df160_1 : decode cJ0_checkIndex_df160 1 = .ok (.iload_n 1, 1) := by decide +kernel
theorem dJ0_checkIndex_df160_2 : decode cJ0_checkIndex_df160 2 = .ok (.getstatic 1053, 3) := by decide +kernel
theorem dJ0_checkIndex_df160_5 : decode cJ0_checkIndex_df160 5 = .ok (.invokestatic 1059, 3) := by decide +kernel
theorem dJ0_checkIndex_df160_8 : decode cJ0_checkIndex_df160 8 = .ok (.pop, 1) := by decide +kernel
theorem dJ0_checkIndex_df160_9 : decode cJ0_checkIndex_df160 9 = .ok (.return_, 1) := by decide +kernel
theorem dJ0_checkBoundsBeginEnd_23922_0 : decode cJ0_checkBoundsBeginEnd_23922 0 = .ok (.iload_n 0, 1) := by decide +kernel
theorem dJ0_checkBoundsBeginEnd_23922_1 : decode cJ0_checkBoundsBeginEnd_23922 1 = .ok (.iload_n 1, 1) := by decide +kernel
theorem dJ0_checkBoundsBeginEnd_23922_2 : decode cJ0_checkBoundsBeginEnd_23922 2 = .ok (.iload_n 2, 1) := by decide +kernel
theorem dJ0_checkBoundsBeginEnd_23922_3 : decode cJ0_checkBoundsBeginEnd_23922 3 = .ok (.getstatic 1053, 3) := by decide +kernel
theorem dJ0_checkBoundsBeginEnd_23922_6 : decode cJ0_checkBoundsBeginEnd_23922 6 = .ok (.invokestatic 1062, 3) := by decide +kernel
theorem dJ0_checkBoundsBeginEnd_23922_9 : decode cJ0_checkBoundsBeginEnd_23922 9 = .ok (.pop, 1) := by decide +kernel
theorem dJ0_checkBoundsBeginEnd_23922_10 : decode cJ0_checkBoundsBeginEnd_23922 10 = .ok (.return_, 1) := by decide +kernel
theorem dJ1_charAt_3b067_0 : decode cJ1_charAt_3b067 0 = .ok (.iload_n 1, 1) := by decide +kernel
theorem dJ1_charAt_3b067_1 : decode cJ1_charAt_3b067 1 = .ok (.aload_n 0, 1) := by decide +kernel
theorem dJ1_charAt_3b067_2 : decode cJ1_charAt_3b067 2 = .ok (.arraylength, 1) := by decide +kernel
theorem dJ1_charAt_3b067_3 : decode cJ1_charAt_3b067 3 = .ok (.invokestatic 9, 3) := by decide +kernel
theorem dJ1_charAt_3b067_6 : decode cJ1_charAt_3b067 6 = .ok (.aload_n 0, 1) := by decide +kernel
theorem dJ1_charAt_3b067_7 : decode cJ1_charAt_3b067 7 = .ok (.iload_n 1, 1) := by decide +kernel
theorem dJ1_charAt_3b067_8 : decode cJ1_charAt_3b067 8 = .ok (.baload, 1) := by decide +kernel
theorem dJ1_charAt_3b067_9 : decode cJ1_charAt_3b067 9 = .ok (.sipush 255, 3) := by decide +kernel
theorem dJ1_charAt_3b067_12 : decode cJ1_charAt_3b067 12 = .ok (.iand, 1) := by decide +kernel
theorem dJ1_charAt_3b067_13 : decode cJ1_charAt_3b067 13 = .ok (.i2c, 1) := by decide +kernel
theorem dJ1_charAt_3b067_14 : decode cJ1_charAt_3b067 14 = .ok (.ireturn, 1) := by decide +kernel
theorem dJ1_canEncode_9a6ad_0 : decode cJ1_canEncode_9a6ad 0 = .ok (.iload_n 0, 1) := by decide +kernel
theorem dJ1_canEncode_9a6ad_1 : decode cJ1_canEncode_9a6ad 1 = .ok (.ifCond .lt 14, 3) := by decide +kernel
theorem dJ1_canEncode_9a6ad_4 : decode cJ1_canEncode_9a6ad 4 = .ok (.iload_n 0, 1) := by decide +kernel
theorem dJ1_canEncode_9a6ad_5 : decode cJ1_canEncode_9a6ad 5 = .ok (.sipush 255, 3) := by decide +kernel
theorem dJ1_canEncode_9a6ad_8 : decode cJ1_canEncode_9a6ad 8 = .ok (.if_icmp .gt 7, 3) := by decide +kernel
theorem dJ1_canEncode_9a6ad_11 : decode cJ1_canEncode_9a6ad 11 = .ok (.iconst 1, 1) := by decide +kernel
theorem dJ1_canEncode_9a6ad_12 : decode cJ1_canEncode_9a6ad 12 = .ok (.goto 4, 3) := by decide +kernel
theorem dJ1_canEncode_9a6ad_15 : decode cJ1_canEncode_9a6ad 15 = .ok (.iconst 0, 1) := by decide +kernel
theorem dJ1_canEncode_9a6ad_16 : decode cJ1_canEncode_9a6ad 16 = .ok (.ireturn, 1) := by decide +kernel
theorem dJ1_indexOf_4cfef_0 : decode cJ1_indexOf_4cfef 0 = .ok (.iload_n 1, 1) := by decide +kernel
theorem dJ1_indexOf_4cfef_1 : decode cJ1_indexOf_4cfef 1 = .ok (.invokestatic 88, 3) := by decide +kernel
theorem dJ1_indexOf_4cfef_4 : decode cJ1_indexOf_4cfef 4 = .ok (.ifCond .ne 5, 3) := by decide +kernel
theorem dJ1_indexOf_4cfef_7 : decode cJ1_indexOf_4cfef 7 = .ok (.iconst (-1), 1) := by decide +kernel
theorem dJ1_indexOf_4cfef_8 : decode cJ1_indexOf_4cfef 8 = .ok (.ireturn, 1) := by decide +kernel
theorem dJ1_indexOf_4cfef_9 : decode cJ1_indexOf_4cfef 9 = .ok (.iload_n 2, 1) := by decide +kernel
theorem dJ1_indexOf_4cfef_10 : decode cJ1_indexOf_4cfef 10 = .ok (.iconst 0, 1) := by decide +kernel
theorem dJ1_indexOf_4cfef_11 : decode cJ1_indexOf_4cfef 11 = .ok (.invokestatic 92, 3) := by decide +kernel
theorem dJ1_indexOf_4cfef_14 : decode cJ1_indexOf_4cfef 14 = .ok (.istore_n 2, 1) := by decide +kernel
theorem dJ1_indexOf_4cfef_15 : decode cJ1_indexOf_4cfef 15 = .ok (.iload_n 3, 1) := by decide +kernel
theorem dJ1_indexOf_4cfef_16 : decode cJ1_indexOf_4cfef 16 = .ok (.aload_n 0, 1) := by decide +kernel
theorem dJ1_indexOf_4cfef_17 : decode cJ1_indexOf_4cfef 17 = .ok (.arraylength, 1) := by decide +kernel
theorem dJ1_indexOf_4cfef_18 : decode cJ1_indexOf_4cfef 18 = .ok (.invokestatic 38, 3) := by decide +kernel
theorem dJ1_indexOf_4cfef_21 : decode cJ1_indexOf_4cfef 21 = .ok (.istore_n 3, 1) := by decide +kernel
theorem dJ1_indexOf_4cfef_22 : decode cJ1_indexOf_4cfef 22 = .ok (.iload_n 2, 1) := by decide +kernel
theorem dJ1_indexOf_4cfef_23 : decode cJ1_indexOf_4cfef 23 = .ok (.iload_n 3, 1) := by decide +kernel
theorem dJ1_indexOf_4cfef_24 : decode cJ1_indexOf_4cfef 24 = .ok (.if_icmp .lt 5, 3) := by decide +kernel
theorem dJ1_indexOf_4cfef_27 : decode cJ1_indexOf_4cfef 27 = .ok (.iconst (-1), 1) := by decide +kernel
theorem dJ1_indexOf_4cfef_28 : decode cJ1_indexOf_4cfef 28 = .ok (.ireturn, 1) := by decide +kernel
theorem dJ1_indexOf_4cfef_29 : decode cJ1_indexOf_4cfef 29 = .ok (.aload_n 0, 1) := by decide +kernel
theorem dJ1_indexOf_4cfef_30 : decode cJ1_indexOf_4cfef 30 = .ok (.iload_n 1, 1) := by decide +kernel
theorem dJ1_indexOf_4cfef_31 : decode cJ1_indexOf_4cfef 31 = .ok (.iload_n 2, 1) := by decide +kernel
theorem dJ1_indexOf_4cfef_32 : decode cJ1_indexOf_4cfef 32 = .ok (.iload_n 3, 1) := by decide +kernel
theorem dJ1_indexOf_4cfef_33 : decode cJ1_indexOf_4cfef 33 = .ok (.invokestatic 95, 3) := by decide +kernel
theorem dJ1_indexOf_4cfef_36 : decode cJ1_indexOf_4cfef 36 = .ok (.ireturn, 1) := by decide +kernel
theorem dJ1_indexOfChar_4cfef_0 : decode cJ1_indexOfChar_4cfef 0 = .ok (.iload_n 1, 1) := by decide +kernel
theorem dJ1_indexOfChar_4cfef_1 : decode cJ1_indexOfChar_4cfef 1 = .ok (.i2b, 1) := by decide +kernel
theorem dJ1_indexOfChar_4cfef_2 : decode cJ1_indexOfChar_4cfef 2 = .ok (.istore 4, 2) := by decide +kernel
theorem dJ1_indexOfChar_4cfef_4 : decode cJ1_indexOfChar_4cfef 4 = .ok (.iload_n 2, 1) := by decide +kernel
theorem dJ1_indexOfChar_4cfef_5 : decode cJ1_indexOfChar_4cfef 5 = .ok (.istore 5, 2) := by decide +kernel
theorem dJ1_indexOfChar_4cfef_7 : decode cJ1_indexOfChar_4cfef 7 = .ok (.iload 5, 2) := by decide +kernel
theorem dJ1_indexOfChar_4cfef_9 : decode cJ1_indexOfChar_4cfef 9 = .ok (.iload_n 3, 1) := by decide +kernel
theorem dJ1_indexOfChar_4cfef_10 : decode cJ1_indexOfChar_4cfef 10 = .ok (.if_icmp .ge 21, 3) := by decide +kernel
theorem dJ1_indexOfChar_4cfef_13 : decode cJ1_indexOfChar_4cfef 13 = .ok (.aload_n 0, 1) := by decide +kernel
theorem dJ1_indexOfChar_4cfef_14 : decode cJ1_indexOfChar_4cfef 14 = .ok (.iload 5, 2) := by decide +kernel
theorem dJ1_indexOfChar_4cfef_16 : decode cJ1_indexOfChar_4cfef 16 = .ok (.baload, 1) := by decide +kernel
theorem dJ1_indexOfChar_4cfef_17 : decode cJ1_indexOfChar_4cfef 17 = .ok (.iload 4, 2) := by decide +kernel
theorem dJ1_indexOfChar_4cfef_19 : decode cJ1_indexOfChar_4cfef 19 = .ok (.if_icmp .ne 6, 3) := by decide +kernel
theorem dJ1_indexOfChar_4cfef_22 : decode cJ1_indexOfChar_4cfef 22 = .ok (.iload 5, 2) := by decide +kernel
theorem dJ1_indexOfChar_4cfef_24 : decode cJ1_indexOfChar_4cfef 24 = .ok (.ireturn, 1) := by decide +kernel
theorem dJ1_indexOfChar_4cfef_25 : decode cJ1_indexOfChar_4cfef 25 = .ok (.iinc 5 1, 3) := by decide +kernel
theorem dJ1_indexOfChar_4cfef_28 : decode cJ1_indexOfChar_4cfef 28 = .ok (.goto (-21), 3) := by decide +kernel
theorem dJ1_indexOfChar_4cfef_31 : decode cJ1_indexOfChar_4cfef 31 = .ok (.iconst (-1), 1) := by decide +kernel
theorem dJ1_indexOfChar_4cfef_32 : decode cJ1_indexOfChar_4cfef 32 = .ok (.ireturn, 1) := by decide +kernel
theorem dJ2_getChar_3b067_0 : decode cJ2_getChar_3b067 0 = .ok (.getstatic 44, 3) := by decide +kernel
theorem dJ2_getChar_3b067_3 : decode cJ2_getChar_3b067 3 = .ok (.ifCond .ne 25, 3) := by decide +kernel
theorem dJ2_getChar_3b067_6 : decode cJ2_getChar_3b067 6 = .ok (.iload_n 1, 1) := by decide +kernel
theorem dJ2_getChar_3b067_7 : decode cJ2_getChar_3b067 7 = .ok (.ifCond .lt 11, 3) := by decide +kernel
theorem dJ2_getChar_3b067_10 : decode cJ2_getChar_3b067 10 = .ok (.iload_n 1, 1) := by decide +kernel
theorem dJ2_getChar_3b067_11 : decode cJ2_getChar_3b067 11 = .ok (.aload_n 0, 1) := by decide +kernel
theorem dJ2_getChar_3b067_12 : decode cJ2_getChar_3b067 12 = .ok (.invokestatic 48, 3) := by decide +kernel
theorem dJ2_getChar_3b067_15 : decode cJ2_getChar_3b067 15 = .ok (.if_icmp .lt 13, 3) := by decide +kernel
theorem dJ2_getChar_3b067_18 : decode cJ2_getChar_3b067 18 = .ok (.new 52, 3) := by decide +kernel
theorem dJ2_getChar_3b067_21 : decode cJ2_getChar_3b067 21 = .ok (.dup, 1) := by decide +kernel
theorem dJ2_getChar_3b067_22 : decode cJ2_getChar_3b067 22 = .ok (.ldc 54, 2) := by decide +kernel
theorem dJ2_getChar_3b067_24 : decode cJ2_getChar_3b067 24 = .ok (.invokespecial 56, 3) := by decide +kernel
theorem dJ2_getChar_3b067_27 : decode cJ2_getChar_3b067 27 = .ok (.athrow, 1) := by decide +kernel
theorem dJ2_getChar_3b067_28 : decode cJ2_getChar_3b067 28 = .ok (.iload_n 1, 1) := by decide +kernel
theorem dJ2_getChar_3b067_29 : decode cJ2_getChar_3b067 29 = .ok (.iconst 1, 1) := by decide +kernel
theorem dJ2_getChar_3b067_30 : decode cJ2_getChar_3b067 30 = .ok (.ishl, 1) := by decide +kernel
theorem dJ2_getChar_3b067_31 : decode cJ2_getChar_3b067 31 = .ok (.istore_n 1, 1) := by decide +kernel
theorem dJ2_getChar_3b067_32 : decode cJ2_getChar_3b067 32 = .ok (.aload_n 0, 1) := by decide +kernel
theorem dJ2_getChar_3b067_33 : decode cJ2_getChar_3b067 33 = .ok (.iload_n 1, 1) := by decide +kernel
theorem dJ2_getChar_3b067_34 : decode cJ2_getChar_3b067 34 = .ok (.iinc 1 1, 3) := by decide +kernel
theorem dJ2_getChar_3b067_37 : decode cJ2_getChar_3b067 37 = .ok (.baload, 1) := by decide +kernel
theorem dJ2_getChar_3b067_38 : decode cJ2_getChar_3b067 38 = .ok (.sipush 255, 3) := by decide +kernel
theorem dJ2_getChar_3b067_41 : decode cJ2_getChar_3b067 41 = .ok (.iand, 1) := by decide +kernel
theorem dJ2_getChar_3b067_42 : decode cJ2_getChar_3b067 42 = .ok (.getstatic 59, 3) := by decide +kernel
theorem dJ2_getChar_3b067_45 : decode cJ2_getChar_3b067 45 = .ok (.ishl, 1) := by decide +kernel
theorem dJ2_getChar_3b067_46 : decode cJ2_getChar_3b067 46 = .ok (.aload_n 0, 1) := by decide +kernel
theorem dJ2_getChar_3b067_47 : decode cJ2_getChar_3b067 47 = .ok (.iload_n 1, 1) := by decide +kernel
theorem dJ2_getChar_3b067_48 : decode cJ2_getChar_3b067 48 = .ok (.baload, 1) := by decide +kernel
theorem dJ2_getChar_3b067_49 : decode cJ2_getChar_3b067 49 = .ok (.sipush 255, 3) := by decide +kernel
theorem dJ2_getChar_3b067_52 : decode cJ2_getChar_3b067 52 = .ok (.iand, 1) := by decide +kernel
theorem dJ2_getChar_3b067_53 : decode cJ2_getChar_3b067 53 = .ok (.getstatic 63, 3) := by decide +kernel
theorem dJ2_getChar_3b067_56 : decode cJ2_getChar_3b067 56 = .ok (.ishl, 1) := by decide +kernel
theorem dJ2_getChar_3b067_57 : decode cJ2_getChar_3b067 57 = .ok (.ior, 1) := by decide +kernel
theorem dJ2_getChar_3b067_58 : decode cJ2_getChar_3b067 58 = .ok (.i2c, 1) := by decide +kernel
theorem dJ2_getChar_3b067_59 : decode cJ2_getChar_3b067 59 = .ok (.ireturn, 1) := by decide +kernel
theorem dJ2_length_9d52b_0 : decode cJ2_length_9d52b 0 = .ok (.aload_n 0, 1) := by decide +kernel
theorem dJ2_length_9d52b_1 : decode cJ2_length_9d52b 1 = .ok (.arraylength, 1) := by decide +kernel
theorem dJ2_length_9d52b_2 : decode cJ2_length_9d52b 2 = .ok (.iconst 1, 1) := by decide +kernel
theorem dJ2_length_9d52b_3 : decode cJ2_length_9d52b 3 = .ok (.ishr, 1) := by decide +kernel
theorem dJ2_length_9d52b_4 : decode cJ2_length_9d52b 4 = .ok (.ireturn, 1) := by decide +kernel
theorem dJ2_indexOf_4cfef_0 : decode cJ2_indexOf_4cfef 0 = .ok (.iload_n 2, 1) := by decide +kernel
theorem dJ2_indexOf_4cfef_1 : decode cJ2_indexOf_4cfef 1 = .ok (.iconst 0, 1) := by decide +kernel
theorem dJ2_indexOf_4cfef_2 : decode cJ2_indexOf_4cfef 2 = .ok (.invokestatic 224, 3) := by decide +kernel
theorem dJ2_indexOf_4cfef_5 : decode cJ2_indexOf_4cfef 5 = .ok (.istore_n 2, 1) := by decide +kernel
theorem dJ2_indexOf_4cfef_6 : decode cJ2_indexOf_4cfef 6 = .ok (.iload_n 3, 1) := by decide +kernel
theorem dJ2_indexOf_4cfef_7 : decode cJ2_indexOf_4cfef 7 = .ok (.aload_n 0, 1) := by decide +kernel
theorem dJ2_indexOf_4cfef_8 : decode cJ2_indexOf_4cfef 8 = .ok (.arraylength, 1) := by decide +kernel
theorem dJ2_indexOf_4cfef_9 : decode cJ2_indexOf_4cfef 9 = .ok (.iconst 1, 1) := by decide +kernel
theorem dJ2_indexOf_4cfef_10 : decode cJ2_indexOf_4cfef 10 = .ok (.ishr, 1) := by decide +kernel
theorem dJ2_indexOf_4cfef_11 : decode cJ2_indexOf_4cfef 11 = .ok (.invokestatic 183, 3) := by decide +kernel
theorem dJ2_indexOf_4cfef_14 : decode cJ2_indexOf_4cfef 14 = .ok (.istore_n 3, 1) := by decide +kernel
theorem dJ2_indexOf_4cfef_15 : decode cJ2_indexOf_4cfef 15 = .ok (.iload_n 2, 1) := by decide +kernel
theorem dJ2_indexOf_4cfef_16 : decode cJ2_indexOf_4cfef 16 = .ok (.iload_n 3, 1) := by decide +kernel
theorem dJ2_indexOf_4cfef_17 : decode cJ2_indexOf_4cfef 17 = .ok (.if_icmp .lt 5, 3) := by decide +kernel
theorem dJ2_indexOf_4cfef_20 : decode cJ2_indexOf_4cfef 20 = .ok (.iconst (-1), 1) := by decide +kernel
theorem dJ2_indexOf_4cfef_21 : decode cJ2_indexOf_4cfef 21 = .ok (.ireturn, 1) := by decide +kernel
theorem dJ2_indexOf_4cfef_22 : decode cJ2_indexOf_4cfef 22 = .ok (.iload_n 1, 1) := by decide +kernel
theorem dJ2_indexOf_4cfef_23 : decode cJ2_indexOf_4cfef 23 = .ok (.ldc 227, 2) := by decide +kernel
theorem dJ2_indexOf_4cfef_25 : decode cJ2_indexOf_4cfef 25 = .ok (.if_icmp .ge 11, 3) := by decide +kernel
theorem dJ2_indexOf_4cfef_28 : decode cJ2_indexOf_4cfef 28 = .ok (.aload_n 0, 1) := by decide +kernel
theorem dJ2_indexOf_4cfef_29 : decode cJ2_indexOf_4cfef 29 = .ok (.iload_n 1, 1) := by decide +kernel
theorem dJ2_indexOf_4cfef_30 : decode cJ2_indexOf_4cfef 30 = .ok (.iload_n 2, 1) := by decide +kernel
theorem dJ2_indexOf_4cfef_31 : decode cJ2_indexOf_4cfef 31 = .ok (.iload_n 3, 1) := by decide +kernel
theorem dJ2_indexOf_4cfef_32 : decode cJ2_indexOf_4cfef 32 = .ok (.invokestatic 228, 3) := by decide +kernel
theorem dJ2_indexOf_4cfef_35 : decode cJ2_indexOf_4cfef 35 = .ok (.ireturn, 1) := by decide +kernel
theorem dJ2_indexOf_4cfef_36 : decode cJ2_indexOf_4cfef 36 = .ok (.aload_n 0, 1) := by decide +kernel
theorem dJ2_indexOf_4cfef_37 : decode cJ2_indexOf_4cfef 37 = .ok (.iload_n 1, 1) := by decide +kernel
theorem dJ2_indexOf_4cfef_38 : decode cJ2_indexOf_4cfef 38 = .ok (.iload_n 2, 1) := by decide +kernel
theorem dJ2_indexOf_4cfef_39 : decode cJ2_indexOf_4cfef 39 = .ok (.iload_n 3, 1) := by decide +kernel
theorem dJ2_indexOf_4cfef_40 : decode cJ2_indexOf_4cfef 40 = .ok (.invokestatic 232, 3) := by decide +kernel
theorem dJ2_indexOf_4cfef_43 : decode cJ2_indexOf_4cfef 43 = .ok (.ireturn, 1) := by decide +kernel
theorem dJ2_indexOfChar_4cfef_0 : decode cJ2_indexOfChar_4cfef 0 = .ok (.iload_n 2, 1) := by decide +kernel
theorem dJ2_indexOfChar_4cfef_1 : decode cJ2_indexOfChar_4cfef 1 = .ok (.iload_n 3, 1) := by decide +kernel
theorem dJ2_indexOfChar_4cfef_2 : decode cJ2_indexOfChar_4cfef 2 = .ok (.aload_n 0, 1) := by decide +kernel
theorem dJ2_indexOfChar_4cfef_3 : decode cJ2_indexOfChar_4cfef 3 = .ok (.invokestatic 96, 3) := by decide +kernel
theorem dJ2_indexOfChar_4cfef_6 : decode cJ2_indexOfChar_4cfef 6 = .ok (.aload_n 0, 1) := by decide +kernel
theorem dJ2_indexOfChar_4cfef_7 : decode cJ2_indexOfChar_4cfef 7 = .ok (.iload_n 1, 1) := by decide +kernel
theorem dJ2_indexOfChar_4cfef_8 : decode cJ2_indexOfChar_4cfef 8 = .ok (.iload_n 2, 1) := by decide +kernel
theorem dJ2_indexOfChar_4cfef_9 : decode cJ2_indexOfChar_4cfef 9 = .ok (.iload_n 3, 1) := by decide +kernel
theorem dJ2_indexOfChar_4cfef_10 : decode cJ2_indexOfChar_4cfef 10 = .ok (.invokestatic 244, 3) := by decide +kernel
theorem dJ2_indexOfChar_4cfef_13 : decode cJ2_indexOfChar_4cfef 13 = .ok (.ireturn, 1) := by decide +kernel
theorem dJ2_indexOfCharUnsafe_4cfef_0 : decode cJ2_indexOfCharUnsafe_4cfef 0 = .ok (.iload_n 2, 1) := by decide +kernel
theorem dJ2_indexOfCharUnsafe_4cfef_1 : decode cJ2_indexOfCharUnsafe_4cfef 1 = .ok (.istore 4, 2) := by decide +kernel
theorem dJ2_indexOfCharUnsafe_4cfef_3 : decode cJ2_indexOfCharUnsafe_4cfef 3 = .ok (.iload 4, 2) := by decide +kernel
theorem dJ2_indexOfCharUnsafe_4cfef_5 : decode cJ2_indexOfCharUnsafe_4cfef 5 = .ok (.iload_n 3, 1) := by decide +kernel
theorem dJ2_indexOfCharUnsafe_4cfef_6 : decode cJ2_indexOfCharUnsafe_4cfef 6 = .ok (.if_icmp .ge 22, 3) := by decide +kernel
theorem dJ2_indexOfCharUnsafe_4cfef_9 : decode cJ2_indexOfCharUnsafe_4cfef 9 = .ok (.aload_n 0, 1) := by decide +kernel
theorem dJ2_indexOfCharUnsafe_4cfef_10 : decode cJ2_indexOfCharUnsafe_4cfef 10 = .ok (.iload 4, 2) := by decide +kernel
theorem dJ2_indexOfCharUnsafe_4cfef_12 : decode cJ2_indexOfCharUnsafe_4cfef 12 = .ok (.invokestatic 71, 3) := by decide +kernel
theorem dJ2_indexOfCharUnsafe_4cfef_15 : decode cJ2_indexOfCharUnsafe_4cfef 15 = .ok (.iload_n 1, 1) := by decide +kernel
theorem dJ2_indexOfCharUnsafe_4cfef_16 : decode cJ2_indexOfCharUnsafe_4cfef 16 = .ok (.if_icmp .ne 6, 3) := by decide +kernel
theorem dJ2_indexOfCharUnsafe_4cfef_19 : decode cJ2_indexOfCharUnsafe_4cfef 19 = .ok (.iload 4, 2) := by decide +kernel
theorem dJ2_indexOfCharUnsafe_4cfef_21 : decode cJ2_indexOfCharUnsafe_4cfef 21 = .ok (.ireturn, 1) := by decide +kernel
theorem dJ2_indexOfCharUnsafe_4cfef_22 : decode cJ2_indexOfCharUnsafe_4cfef 22 = .ok (.iinc 4 1, 3) := by decide +kernel
theorem dJ2_indexOfCharUnsafe_4cfef_25 : decode cJ2_indexOfCharUnsafe_4cfef 25 = .ok (.goto (-22), 3) := by decide +kernel
theorem dJ2_indexOfCharUnsafe_4cfef_28 : decode cJ2_indexOfCharUnsafe_4cfef 28 = .ok (.iconst (-1), 1) := by decide +kernel
theorem dJ2_indexOfCharUnsafe_4cfef_29 : decode cJ2_indexOfCharUnsafe_4cfef 29 = .ok (.ireturn, 1) := by decide +kernel
theorem dJ2_indexOfSupplementary_4cfef_0 : decode cJ2_indexOfSupplementary_4cfef 0 = .ok (.iload_n 1, 1) := by decide +kernel
theorem dJ2_indexOfSupplementary_4cfef_1 : decode cJ2_indexOfSupplementary_4cfef 1 = .ok (.invokestatic 164, 3) := by decide +kernel
theorem dJ2_indexOfSupplementary_4cfef_4 : decode cJ2_indexOfSupplementary_4cfef 4 = .ok (.ifCond .eq 65, 3) := by decide +kernel
theorem dJ2_indexOfSupplementary_4cfef_7 : decode cJ2_indexOfSupplementary_4cfef 7 = .ok (.iload_n 1, 1) := by decide +kernel
theorem dJ2_indexOfSupplementary_4cfef_8 : decode cJ2_indexOfSupplementary_4cfef 8 = .ok (.invokestatic 157, 3) := by decide +kernel
theorem dJ2_indexOfSupplementary_4cfef_11 : decode cJ2_indexOfSupplementary_4cfef 11 = .ok (.istore 4, 2) := by decide +kernel
theorem dJ2_indexOfSupplementary_4cfef_13 : decode cJ2_indexOfSupplementary_4cfef 13 = .ok (.iload_n 1, 1) := by decide +kernel
theorem dJ2_indexOfSupplementary_4cfef_14 : decode cJ2_indexOfSupplementary_4cfef 14 = .ok (.invokestatic 161, 3) := by decide +kernel
theorem dJ2_indexOfSupplementary_4cfef_17 : decode cJ2_indexOfSupplementary_4cfef 17 = .ok (.istore 5, 2) := by decide +kernel
theorem dJ2_indexOfSupplementary_4cfef_19 : decode cJ2_indexOfSupplementary_4cfef 19 = .ok (.iload_n 2, 1) := by decide +kernel
theorem dJ2_indexOfSupplementary_4cfef_20 : decode cJ2_indexOfSupplementary_4cfef 20 = .ok (.iload_n 3, 1) := by decide +kernel
theorem dJ2_indexOfSupplementary_4cfef_21 : decode cJ2_indexOfSupplementary_4cfef 21 = .ok (.aload_n 0, 1) := by decide +kernel
theorem dJ2_indexOfSupplementary_4cfef_22 : decode cJ2_indexOfSupplementary_4cfef 22 = .ok (.invokestatic 96, 3) := by decide +kernel
theorem dJ2_indexOfSupplementary_4cfef_25 : decode cJ2_indexOfSupplementary_4cfef 25 = .ok (.iload_n 2, 1) := by decide +kernel
theorem dJ2_indexOfSupplementary_4cfef_26 : decode cJ2_indexOfSupplementary_4cfef 26 = .ok (.istore 6, 2) := by decide +kernel
theorem dJ2_indexOfSupplementary_4cfef_28 : decode cJ2_indexOfSupplementary_4cfef 28 = .ok (.iload 6, 2) := by decide +kernel
theorem dJ2_indexOfSupplementary_4cfef_30 : decode cJ2_indexOfSupplementary_4cfef 30 = .ok (.iload_n 3, 1) := by decide +kernel
theorem dJ2_indexOfSupplementary_4cfef_31 : decode cJ2_indexOfSupplementary_4cfef 31 = .ok (.iconst 1, 1) := by decide +kernel
theorem dJ2_indexOfSupplementary_4cfef_32 : decode cJ2_indexOfSupplementary_4cfef 32 = .ok (.isub, 1) := by decide +kernel
theorem dJ2_indexOfSupplementary_4cfef_33 : decode cJ2_indexOfSupplementary_4cfef 33 = .ok (.if_icmp .ge 36, 3) := by decide +kernel
theorem dJ2_indexOfSupplementary_4cfef_36 : decode cJ2_indexOfSupplementary_4cfef 36 = .ok (.aload_n 0, 1) := by decide +kernel
theorem dJ2_indexOfSupplementary_4cfef_37 : decode cJ2_indexOfSupplementary_4cfef 37 = .ok (.iload 6, 2) := by decide +kernel
theorem dJ2_indexOfSupplementary_4cfef_39 : decode cJ2_indexOfSupplementary_4cfef 39 = .ok (.invokestatic 71, 3) := by decide +kernel
theorem dJ2_indexOfSupplementary_4cfef_42 : decode cJ2_indexOfSupplementary_4cfef 42 = .ok (.iload 4, 2) := by decide +kernel
theorem dJ2_indexOfSupplementary_4cfef_44 : decode cJ2_indexOfSupplementary_4cfef 44 = .ok (.if_icmp .ne 19, 3) := by decide +kernel
theorem dJ2_indexOfSupplementary_4cfef_47 : decode cJ2_indexOfSupplementary_4cfef 47 = .ok (.aload_n 0, 1) := by decide +kernel
theorem dJ2_indexOfSupplementary_4cfef_48 : decode cJ2_indexOfSupplementary_4cfef 48 = .ok (.iload 6, 2) := by decide +kernel
theorem dJ2_indexOfSupplementary_4cfef_50 : decode cJ2_indexOfSupplementary_4cfef 50 = .ok (.iconst 1, 1) := by decide +kernel
theorem dJ2_indexOfSupplementary_4cfef_51 : decode cJ2_indexOfSupplementary_4cfef 51 = .ok (.iadd, 1) := by decide +kernel
theorem dJ2_indexOfSupplementary_4cfef_52 : decode cJ2_indexOfSupplementary_4cfef 52 = .ok (.invokestatic 71, 3) := by decide +kernel
theorem dJ2_indexOfSupplementary_4cfef_55 : decode cJ2_indexOfSupplementary_4cfef 55 = .ok (.iload 5, 2) := by decide +kernel
theorem dJ2_indexOfSupplementary_4cfef_57 : decode cJ2_indexOfSupplementary_4cfef 57 = .ok (.if_icmp .ne 6, 3) := by decide +kernel
theorem dJ2_indexOfSupplementary_4cfef_60 : decode cJ2_indexOfSupplementary_4cfef 60 = .ok (.iload 6, 2) := by decide +kernel
theorem dJ2_indexOfSupplementary_4cfef_62 : decode cJ2_indexOfSupplementary_4cfef 62 = .ok (.ireturn, 1) := by decide +kernel
theorem dJ2_indexOfSupplementary_4cfef_63 : decode cJ2_indexOfSupplementary_4cfef 63 = .ok (.iinc 6 1, 3) := by decide +kernel
theorem dJ2_indexOfSupplementary_4cfef_66 : decode cJ2_indexOfSupplementary_4cfef 66 = .ok (.goto (-38), 3) := by decide +kernel
theorem dJ2_indexOfSupplementary_4cfef_69 : decode cJ2_indexOfSupplementary_4cfef 69 = .ok (.iconst (-1), 1) := by decide +kernel
theorem dJ2_indexOfSupplementary_4cfef_70 : decode cJ2_indexOfSupplementary_4cfef 70 = .ok (.ireturn, 1) := by decide +kernel
theorem dJ2_charAt_3b067_0 : decode cJ2_charAt_3b067 0 = .ok (.iload_n 1, 1) := by decide +kernel
theorem dJ2_charAt_3b067_1 : decode cJ2_charAt_3b067 1 = .ok (.aload_n 0, 1) := by decide +kernel
theorem dJ2_charAt_3b067_2 : decode cJ2_charAt_3b067 2 = .ok (.invokestatic 67, 3) := by decide +kernel
theorem dJ2_charAt_3b067_5 : decode cJ2_charAt_3b067 5 = .ok (.aload_n 0, 1) := by decide +kernel
theorem dJ2_charAt_3b067_6 : decode cJ2_charAt_3b067 6 = .ok (.iload_n 1, 1) := by decide +kernel
theorem dJ2_charAt_3b067_7 : decode cJ2_charAt_3b067 7 = .ok (.invokestatic 71, 3) := by decide +kernel
theorem dJ2_charAt_3b067_10 : decode cJ2_charAt_3b067 10 = .ok (.ireturn, 1) := by decide +kernel
theorem dJ2_checkIndex_2214a_0 : decode cJ2_checkIndex_2214a 0 = .ok (.iload_n 0, 1) := by decide +kernel
theorem dJ2_checkIndex_2214a_1 : decode cJ2_checkIndex_2214a 1 = .ok (.aload_n 1, 1) := by decide +kernel
theorem dJ2_checkIndex_2214a_2 : decode cJ2_checkIndex_2214a 2 = .ok (.invokestatic 48, 3) := by decide +kernel
theorem dJ2_checkIndex_2214a_5 : decode cJ2_checkIndex_2214a 5 = .ok (.invokestatic 414, 3) := by decide +kernel
theorem dJ2_checkIndex_2214a_8 : decode cJ2_checkIndex_2214a 8 = .ok (.return_, 1) := by decide +kernel
theorem dJ2_checkBoundsBeginEnd_d044e_0 : decode cJ2_checkBoundsBeginEnd_d044e 0 = .ok (.iload_n 0, 1) := by decide +kernel
theorem dJ2_checkBoundsBeginEnd_d044e_1 : decode cJ2_checkBoundsBeginEnd_d044e 1 = .ok (.iload_n 1, 1) := by decide +kernel
theorem dJ2_checkBoundsBeginEnd_d044e_2 : decode cJ2_checkBoundsBeginEnd_d044e 2 = .ok (.aload_n 2, 1) := by decide +kernel
theorem dJ2_checkBoundsBeginEnd_d044e_3 : decode cJ2_checkBoundsBeginEnd_d044e 3 = .ok (.invokestatic 48, 3) := by decide +kernel
theorem dJ2_checkBoundsBeginEnd_d044e_6 : decode cJ2_checkBoundsBeginEnd_d044e 6 = .ok (.invokestatic 241, 3) := by decide +kernel
theorem dJ2_checkBoundsBeginEnd_d044e_9 : decode cJ2_checkBoundsBeginEnd_d044e 9 = .ok (.return_, 1) := by decide +kernel
theorem dJ3_checkIndex_8e157_0 : decode cJ3_checkIndex_8e157 0 = .ok (.iload_n 0, 1) := by decide +kernel
theorem dJ3_checkIndex_8e157_1 : decode cJ3_checkIndex_8e157 1 = .ok (.ifCond .lt 8, 3) := by decide +kernel
theorem dJ3_checkIndex_8e157_4 : decode cJ3_checkIndex_8e157 4 = .ok (.iload_n 0, 1) := by decide +kernel
theorem dJ3_checkIndex_8e157_5 : decode cJ3_checkIndex_8e157 5 = .ok (.iload_n 1, 1) := by decide +kernel
theorem dJ3_checkIndex_8e157_6 : decode cJ3_checkIndex_8e157 6 = .ok (.if_icmp .lt 10, 3) := by decide +kernel
theorem dJ3_checkIndex_8e157_9 : decode cJ3_checkIndex_8e157 9 = .ok (.aload_n 2, 1) := by decide +kernel
theorem dJ3_checkIndex_8e157_10 : decode cJ3_checkIndex_8e157 10 = .ok (.iload_n 0, 1) := by decide +kernel
theorem dJ3_checkIndex_8e157_11 : decode cJ3_checkIndex_8e157 11 = .ok (.iload_n 1, 1) := by decide +kernel
theorem dJ3_checkIndex_8e157_12 : decode cJ3_checkIndex_8e157 12 = .ok (.invokestatic 95, 3) := by decide +kernel
theorem dJ3_checkIndex_8e157_15 : decode cJ3_checkIndex_8e157 15 = .ok (.athrow, 1) := by decide +kernel
theorem dJ3_checkIndex_8e157_16 : decode cJ3_checkIndex_8e157 16 = .ok (.iload_n 0, 1) := by decide +kernel
theorem dJ3_checkIndex_8e157_17 : decode cJ3_checkIndex_8e157 17 = .ok (.ireturn, 1) := by decide +kernel
theorem dJ3_checkFromToIndex_8c36e_0 : decode cJ3_checkFromToIndex_8c36e 0 = .ok (.iload_n 0, 1) := by decide +kernel
theorem dJ3_checkFromToIndex_8c36e_1 : decode cJ3_checkFromToIndex_8c36e 1 = .ok (.ifCond .lt 13, 3) := by decide +kernel
theorem dJ3_checkFromToIndex_8c36e_4 : decode cJ3_checkFromToIndex_8c36e 4 = .ok (.iload_n 0, 1) := by decide +kernel
theorem dJ3_checkFromToIndex_8c36e_5 : decode cJ3_checkFromToIndex_8c36e 5 = .ok (.iload_n 1, 1) := by decide +kernel
theorem dJ3_checkFromToIndex_8c36e_6 : decode cJ3_checkFromToIndex_8c36e 6 = .ok (.if_icmp .gt 8, 3) := by decide +kernel
theorem dJ3_checkFromToIndex_8c36e_9 : decode cJ3_checkFromToIndex_8c36e 9 = .ok (.iload_n 1, 1) := by decide +kernel
theorem dJ3_checkFromToIndex_8c36e_10 : decode cJ3_checkFromToIndex_8c36e 10 = .ok (.iload_n 2, 1) := by decide +kernel
theorem dJ3_checkFromToIndex_8c36e_11 : decode cJ3_checkFromToIndex_8c36e 11 = .ok (.if_icmp .le 11, 3) := by decide +kernel
theorem dJ3_checkFromToIndex_8c36e_14 : decode cJ3_checkFromToIndex_8c36e 14 = .ok (.aload_n 3, 1) := by decide +kernel
theorem dJ3_checkFromToIndex_8c36e_15 : decode cJ3_checkFromToIndex_8c36e 15 = .ok (.iload_n 0, 1) := by decide +kernel
theorem dJ3_checkFromToIndex_8c36e_16 : decode cJ3_checkFromToIndex_8c36e 16 = .ok (.iload_n 1, 1) := by decide +kernel
theorem dJ3_checkFromToIndex_8c36e_17 : decode cJ3_checkFromToIndex_8c36e 17 = .ok (.iload_n 2, 1) := by decide +kernel
theorem dJ3_checkFromToIndex_8c36e_18 : decode cJ3_checkFromToIndex_8c36e 18 = .ok (.invokestatic 99, 3) := by decide +kernel
theorem dJ3_checkFromToIndex_8c36e_21 : decode cJ3_checkFromToIndex_8c36e 21 = .ok (.athrow, 1) := by decide +kernel
theorem dJ3_checkFromToIndex_8c36e_22 : decode cJ3_checkFromToIndex_8c36e 22 = .ok (.iload_n 0, 1) := by decide +kernel
theorem dJ3_checkFromToIndex_8c36e_23 : decode cJ3_checkFromToIndex_8c36e 23 = .ok (.ireturn, 1) := by decide +kernel
theorem dL_law_0 : decode cL_law 0 = .ok (.new 7, 3) := by decide +kernel
theorem dL_law_3 : decode cL_law 3 = .ok (.dup, 1) := by decide +kernel
theorem dL_law_4 : decode cL_law 4 = .ok (.invokespecial 9, 3) := by decide +kernel
theorem dL_law_7 : decode cL_law 7 = .ok (.astore_n 1, 1) := by decide +kernel
theorem dL_law_8 : decode cL_law 8 = .ok (.new 10, 3) := by decide +kernel
theorem dL_law_11 : decode cL_law 11 = .ok (.dup, 1) := by decide +kernel
theorem dL_law_12 : decode cL_law 12 = .ok (.invokespecial 12, 3) := by decide +kernel
theorem dL_law_15 : decode cL_law 15 = .ok (.astore_n 2, 1) := by decide +kernel
theorem dL_law_16 : decode cL_law 16 = .ok (.iconst 0, 1) := by decide +kernel
theorem dL_law_17 : decode cL_law 17 = .ok (.istore_n 3, 1) := by decide +kernel
theorem dL_law_18 : decode cL_law 18 = .ok (.iload_n 3, 1) := by decide +kernel
theorem dL_law_19 : decode cL_law 19 = .ok (.aload_n 0, 1) := by decide +kernel
theorem dL_law_20 : decode cL_law 20 = .ok (.arraylength, 1) := by decide +kernel
theorem dL_law_21 : decode cL_law 21 = .ok (.bipush 6, 2) := by decide +kernel
theorem dL_law_23 : decode cL_law 23 = .ok (.isub, 1) := by decide +kernel
theorem dL_law_24 : decode cL_law 24 = .ok (.if_icmp .gt 891, 3) := by decide +kernel
theorem dL_law_27 : decode cL_law 27 = .ok (.aload_n 0, 1) := by decide +kernel
theorem dL_law_28 : decode cL_law 28 = .ok (.iload_n 3, 1) := by decide +kernel
theorem dL_law_29 : decode cL_law 29 = .ok (.iaload, 1) := by decide +kernel
theorem dL_law_30 : decode cL_law 30 = .ok (.bipush 31, 2) := by decide +kernel
theorem dL_law_32 : decode cL_law 32 = .ok (.iand, 1) := by decide +kernel
theorem dL_law_33 : decode cL_law 33 = .ok (.tableswitch 876 0 22 #[107, 130, 153, 206, 259, 282, 305, 368, 391, 414, 437, 460, 493, 526, 559, 592, 635, 678, 731, 754, 797, 820, 853], 107) := by decide +kernel
theorem dL_law_140 : decode cL_law 140 = .ok (.aload_n 1, 1) := by decide +kernel
theorem dL_law_141 : decode cL_law 141 = .ok (.aload_n 0, 1) := by decide +kernel
theorem dL_law_142 : decode cL_law 142 = .ok (.iload_n 3, 1) := by decide +kernel
theorem dL_law_143 : decode cL_law 143 = .ok (.iconst 1, 1) := by decide +kernel
theorem dL_law_144 : decode cL_law 144 = .ok (.iadd, 1) := by decide +kernel
theorem dL_law_145 : decode cL_law 145 = .ok (.iaload, 1) := by decide +kernel
theorem dL_law_146 : decode cL_law 146 = .ok (.invokevirtual 13, 3) := by decide +kernel
theorem dL_law_149 : decode cL_law 149 = .ok (.aload_n 2, 1) := by decide +kernel
theorem dL_law_150 : decode cL_law 150 = .ok (.aload_n 0, 1) := by decide +kernel
theorem dL_law_151 : decode cL_law 151 = .ok (.iload_n 3, 1) := by decide +kernel
theorem dL_law_152 : decode cL_law 152 = .ok (.iconst 1, 1) := by decide +kernel
theorem dL_law_153 : decode cL_law 153 = .ok (.iadd, 1) := by decide +kernel
theorem dL_law_154 : decode cL_law 154 = .ok (.iaload, 1) := by decide +kernel
theorem dL_law_155 : decode cL_law 155 = .ok (.invokevirtual 17, 3) := by decide +kernel
theorem dL_law_158 : decode cL_law 158 = .ok (.if_icmp .eq 751, 3) := by decide +kernel
theorem dL_law_161 : decode cL_law 161 = .ok (.iconst 0, 1) := by decide +kernel
theorem dL_law_162 : decode cL_law 162 = .ok (.ireturn, 1) := by decide +kernel
theorem dL_law_163 : decode cL_law 163 = .ok (.aload_n 1, 1) := by decide +kernel
theorem dL_law_164 : decode cL_law 164 = .ok (.aload_n 0, 1) := by decide +kernel
theorem dL_law_165 : decode cL_law 165 = .ok (.iload_n 3, 1) := by decide +kernel
theorem dL_law_166 : decode cL_law 166 = .ok (.iconst 1, 1) := by decide +kernel
theorem dL_law_167 : decode cL_law 167 = .ok (.iadd, 1) := by decide +kernel
theorem dL_law_168 : decode cL_law 168 = .ok (.iaload, 1) := by decide +kernel
theorem dL_law_169 : decode cL_law 169 = .ok (.invokevirtual 18, 3) := by decide +kernel
theorem dL_law_172 : decode cL_law 172 = .ok (.aload_n 2, 1) := by decide +kernel
theorem dL_law_173 : decode cL_law 173 = .ok (.aload_n 0, 1) := by decide +kernel
theorem dL_law_174 : decode cL_law 174 = .ok (.iload_n 3, 1) := by decide +kernel
theorem dL_law_175 : decode cL_law 175 = .ok (.iconst 1, 1) := by decide +kernel
theorem dL_law_176 : decode cL_law 176 = .ok (.iadd, 1) := by decide +kernel
theorem dL_law_177 : decode cL_law 177 = .ok (.iaload, 1) := by decide +kernel
theorem dL_law_178 : decode cL_law 178 = .ok (.invokevirtual 22, 3) := by decide +kernel
theorem dL_law_181 : decode cL_law 181 = .ok (.if_icmp .eq 728, 3) := by decide +kernel
theorem dL_law_184 : decode cL_law 184 = .ok (.iconst 0, 1) := by decide +kernel
theorem dL_law_185 : decode cL_law 185 = .ok (.ireturn, 1) := by decide +kernel
theorem dL_law_186 : decode cL_law 186 = .ok (.aload_n 1, 1) := by decide +kernel
theorem dL_law_187 : decode cL_law 187 = .ok (.aload_n 0, 1) := by decide +kernel
theorem dL_law_188 : decode cL_law 188 = .ok (.iload_n 3, 1) := by decide +kernel
theorem dL_law_189 : decode cL_law 189 = .ok (.iconst 1, 1) := by decide +kernel
theorem dL_law_190 : decode cL_law 190 = .ok (.iadd, 1) := by decide +kernel
theorem dL_law_191 : decode cL_law 191 = .ok (.iaload, 1) := by decide +kernel
theorem dL_law_192 : decode cL_law 192 = .ok (.aload_n 0, 1) := by decide +kernel
theorem dL_law_193 : decode cL_law 193 = .ok (.iload_n 3, 1) := by decide +kernel
theorem dL_law_194 : decode cL_law 194 = .ok (.iconst 2, 1) := by decide +kernel
theorem dL_law_195 : decode cL_law 195 = .ok (.iadd, 1) := by decide +kernel
theorem dL_law_196 : decode cL_law 196 = .ok (.iaload, 1) := by decide +kernel
theorem dL_law_197 : decode cL_law 197 = .ok (.aload_n 0, 1) := by decide +kernel
theorem dL_law_198 : decode cL_law 198 = .ok (.iload_n 3, 1) := by decide +kernel
theorem dL_law_199 : decode cL_law 199 = .ok (.iconst 3, 1) := by decide +kernel
theorem dL_law_200 : decode cL_law 200 = .ok (.iadd, 1) := by decide +kernel
theorem dL_law_201 : decode cL_law 201 = .ok (.iaload, 1) := by decide +kernel
theorem dL_law_202 : decode cL_law 202 = .ok (.aload_n 0, 1) := by decide +kernel
theorem dL_law_203 : decode cL_law 203 = .ok (.iload_n 3, 1) := by decide +kernel
theorem dL_law_204 : decode cL_law 204 = .ok (.iconst 4, 1) := by decide +kernel
theorem dL_law_205 : decode cL_law 205 = .ok (.iadd, 1) := by decide +kernel
theorem dL_law_206 : decode cL_law 206 = .ok (.iaload, 1) := by decide +kernel
theorem dL_law_207 : decode cL_law 207 = .ok (.invokevirtual 23, 3) := by decide +kernel
theorem dL_law_210 : decode cL_law 210 = .ok (.aload_n 2, 1) := by decide +kernel
theorem dL_law_211 : decode cL_law 211 = .ok (.aload_n 0, 1) := by decide +kernel
theorem dL_law_212 : decode cL_law 212 = .ok (.iload_n 3, 1) := by decide +kernel
theorem dL_law_213 : decode cL_law 213 = .ok (.iconst 1, 1) := by decide +kernel
theorem dL_law_214 : decode cL_law 214 = .ok (.iadd, 1) := by decide +kernel
theorem dL_law_215 : decode cL_law 215 = .ok (.iaload, 1) := by decide +kernel
theorem dL_law_216 : decode cL_law 216 = .ok (.aload_n 0, 1) := by decide +kernel
theorem dL_law_217 : decode cL_law 217 = .ok (.iload_n 3, 1) := by decide +kernel
theorem dL_law_218 : decode cL_law 218 = .ok (.iconst 2, 1) := by decide +kernel
theorem dL_law_219 : decode cL_law 219 = .ok (.iadd, 1) := by decide +kernel
theorem dL_law_220 : decode cL_law 220 = .ok (.iaload, 1) := by decide +kernel
theorem dL_law_221 : decode cL_law 221 = .ok (.aload_n 0, 1) := by decide +kernel
theorem dL_law_222 : decode cL_law 222 = .ok (.iload_n 3, 1) := by decide +kernel
theorem dL_law_223 : decode cL_law 223 = .ok (.iconst 3, 1) := by decide +kernel
theorem dL_law_224 : decode cL_law 224 = .ok (.iadd, 1) := by decide +kernel
theorem dL_law_225 : decode cL_law 225 = .ok (.iaload, 1) := by decide +kernel
theorem dL_law_226 : decode cL_law 226 = .ok (.aload_n 0, 1) := by decide +kernel
theorem dL_law_227 : decode cL_law 227 = .ok (.iload_n 3, 1) := by decide +kernel
theorem dL_law_228 : decode cL_law 228 = .ok (.iconst 4, 1) := by decide +kernel
theorem dL_law_229 : decode cL_law 229 = .ok (.iadd, 1) := by decide +kernel
theorem dL_law_230 : decode cL_law 230 = .ok (.iaload, 1) := by decide +kernel
theorem dL_law_231 : decode cL_law 231 = .ok (.invokevirtual 27, 3) := by decide +kernel
theorem dL_law_234 : decode cL_law 234 = .ok (.if_icmp .eq 675, 3) := by decide +kernel
theorem dL_law_237 : decode cL_law 237 = .ok (.iconst 0, 1) := by decide +kernel
theorem dL_law_238 : decode cL_law 238 = .ok (.ireturn, 1) := by decide +kernel
theorem dL_law_239 : decode cL_law 239 = .ok (.aload_n 1, 1) := by decide +kernel
theorem dL_law_240 : decode cL_law 240 = .ok (.aload_n 0, 1) := by decide +kernel
theorem dL_law_241 : decode cL_law 241 = .ok (.iload_n 3, 1) := by decide +kernel
theorem dL_law_242 : decode cL_law 242 = .ok (.iconst 1, 1) := by decide +kernel
theorem dL_law_243 : decode cL_law 243 = .ok (.iadd, 1) := by decide +kernel
theorem dL_law_244 : decode cL_law 244 = .ok (.iaload, 1) := by decide +kernel
theorem dL_law_245 : decode cL_law 245 = .ok (.aload_n 0, 1) := by decide +kernel
theorem dL_law_246 : decode cL_law 246 = .ok (.iload_n 3, 1) := by decide +kernel
theorem dL_law_247 : decode cL_law 247 = .ok (.iconst 2, 1) := by decide +kernel
theorem dL_law_248 : decode cL_law 248 = .ok (.iadd, 1) := by decide +kernel
theorem dL_law_249 : decode cL_law 249 = .ok (.iaload, 1) := by decide +kernel
theorem dL_law_250 : decode cL_law 250 = .ok (.aload_n 0, 1) := by decide +kernel
theorem dL_law_251 : decode cL_law 251 = .ok (.iload_n 3, 1) := by decide +kernel
theorem dL_law_252 : decode cL_law 252 = .ok (.iconst 3, 1) := by decide +kernel
theorem dL_law_253 : decode cL_law 253 = .ok (.iadd, 1) := by decide +kernel
theorem dL_law_254 : decode cL_law 254 = .ok (.iaload, 1) := by decide +kernel
theorem dL_law_255 : decode cL_law 255 = .ok (.aload_n 0, 1) := by decide +kernel
theorem dL_law_256 : decode cL_law 256 = .ok (.iload_n 3, 1) := by decide +kernel
theorem dL_law_257 : decode cL_law 257 = .ok (.iconst 4, 1) := by decide +kernel
theorem dL_law_258 : decode cL_law 258 = .ok (.iadd, 1) := by decide +kernel
theorem dL_law_259 : decode cL_law 259 = .ok (.iaload, 1) := by decide +kernel
theorem dL_law_260 : decode cL_law 260 = .ok (.invokevirtual 28, 3) := by decide +kernel
theorem dL_law_263 : decode cL_law 263 = .ok (.aload_n 2, 1) := by decide +kernel
theorem dL_law_264 : decode cL_law 264 = .ok (.aload_n 0, 1) := by decide +kernel
theorem dL_law_265 : decode cL_law 265 = .ok (.iload_n 3, 1) := by decide +kernel
theorem dL_law_266 : decode cL_law 266 = .ok (.iconst 1, 1) := by decide +kernel
theorem dL_law_267 : decode cL_law 267 = .ok (.iadd, 1) := by decide +kernel
theorem dL_law_268 : decode cL_law 268 = .ok (.iaload, 1) := by decide +kernel
theorem dL_law_269 : decode cL_law 269 = .ok (.aload_n 0, 1) := by decide +kernel
theorem dL_law_270 : decode cL_law 270 = .ok (.iload_n 3, 1) := by decide +kernel
theorem dL_law_271 : decode cL_law 271 = .ok (.iconst 2, 1) := by decide +kernel
theorem dL_law_272 : decode cL_law 272 = .ok (.iadd, 1) := by decide +kernel
theorem dL_law_273 : decode cL_law 273 = .ok (.iaload, 1) := by decide +kernel
theorem dL_law_274 : decode cL_law 274 = .ok (.aload_n 0, 1) := by decide +kernel
theorem dL_law_275 : decode cL_law 275 = .ok (.iload_n 3, 1) := by decide +kernel
theorem dL_law_276 : decode cL_law 276 = .ok (.iconst 3, 1) := by decide +kernel
theorem dL_law_277 : decode cL_law 277 = .ok (.iadd, 1) := by decide +kernel
theorem dL_law_278 : decode cL_law 278 = .ok (.iaload, 1) := by decide +kernel
theorem dL_law_279 : decode cL_law 279 = .ok (.aload_n 0, 1) := by decide +kernel
theorem dL_law_280 : decode cL_law 280 = .ok (.iload_n 3, 1) := by decide +kernel
theorem dL_law_281 : decode cL_law 281 = .ok (.iconst 4, 1) := by decide +kernel
theorem dL_law_282 : decode cL_law 282 = .ok (.iadd, 1) := by decide +kernel
theorem dL_law_283 : decode cL_law 283 = .ok (.iaload, 1) := by decide +kernel
theorem dL_law_284 : decode cL_law 284 = .ok (.invokevirtual 32, 3) := by decide +kernel
theorem dL_law_287 : decode cL_law 287 = .ok (.if_icmp .eq 622, 3) := by decide +kernel
theorem dL_law_290 : decode cL_law 290 = .ok (.iconst 0, 1) := by decide +kernel
theorem dL_law_291 : decode cL_law 291 = .ok (.ireturn, 1) := by decide +kernel
theorem dL_law_292 : decode cL_law 292 = .ok (.aload_n 1, 1) := by decide +kernel
theorem dL_law_293 : decode cL_law 293 = .ok (.aload_n 0, 1) := by decide +kernel
theorem dL_law_294 : decode cL_law 294 = .ok (.iload_n 3, 1) := by decide +kernel
theorem dL_law_295 : decode cL_law 295 = .ok (.iconst 1, 1) := by decide +kernel
theorem dL_law_296 : decode cL_law 296 = .ok (.iadd, 1) := by decide +kernel
theorem dL_law_297 : decode cL_law 297 = .ok (.iaload, 1) := by decide +kernel
theorem dL_law_298 : decode cL_law 298 = .ok (.invokevirtual 33, 3) := by decide +kernel
theorem dL_law_301 : decode cL_law 301 = .ok (.aload_n 2, 1) := by decide +kernel
theorem dL_law_302 : decode cL_law 302 = .ok (.aload_n 0, 1) := by decide +kernel
theorem dL_law_303 : decode cL_law 303 = .ok (.iload_n 3, 1) := by decide +kernel
theorem dL_law_304 : decode cL_law 304 = .ok (.iconst 1, 1) := by decide +kernel
theorem dL_law_305 : decode cL_law 305 = .ok (.iadd, 1) := by decide +kernel
theorem dL_law_306 : decode cL_law 306 = .ok (.iaload, 1) := by decide +kernel
theorem dL_law_307 : decode cL_law 307 = .ok (.invokevirtual 36, 3) := by decide +kernel
theorem dL_law_310 : decode cL_law 310 = .ok (.if_icmp .eq 599, 3) := by decide +kernel
theorem dL_law_313 : decode cL_law 313 = .ok (.iconst 0, 1) := by decide +kernel
theorem dL_law_314 : decode cL_law 314 = .ok (.ireturn, 1) := by decide +kernel
theorem dL_law_315 : decode cL_law 315 = .ok (.aload_n 1, 1) := by decide +kernel
theorem dL_law_316 : decode cL_law 316 = .ok (.aload_n 0, 1) := by decide +kernel
theorem dL_law_317 : decode cL_law 317 = .ok (.iload_n 3, 1) := by decide +kernel
theorem dL_law_318 : decode cL_law 318 = .ok (.iconst 1, 1) := by decide +kernel
theorem dL_law_319 : decode cL_law 319 = .ok (.iadd, 1) := by decide +kernel
theorem dL_law_320 : decode cL_law 320 = .ok (.iaload, 1) := by decide +kernel
theorem dL_law_321 : decode cL_law 321 = .ok (.invokevirtual 37, 3) := by decide +kernel
theorem dL_law_324 : decode cL_law 324 = .ok (.aload_n 2, 1) := by decide +kernel
theorem dL_law_325 : decode cL_law 325 = .ok (.aload_n 0, 1) := by decide +kernel
theorem dL_law_326 : decode cL_law 326 = .ok (.iload_n 3, 1) := by decide +kernel
theorem dL_law_327 : decode cL_law 327 = .ok (.iconst 1, 1) := by decide +kernel
theorem dL_law_328 : decode cL_law 328 = .ok (.iadd, 1) := by decide +kernel
theorem dL_law_329 : decode cL_law 329 = .ok (.iaload, 1) := by decide +kernel
theorem dL_law_330 : decode cL_law 330 = .ok (.invokevirtual 40, 3) := by decide +kernel
theorem dL_law_333 : decode cL_law 333 = .ok (.if_icmp .eq 576, 3) := by decide +kernel
theorem dL_law_336 : decode cL_law 336 = .ok (.iconst 0, 1) := by decide +kernel
theorem dL_law_337 : decode cL_law 337 = .ok (.ireturn, 1) := by decide +kernel
theorem dL_law_338 : decode cL_law 338 = .ok (.aload_n 1, 1) := by decide +kernel
theorem dL_law_339 : decode cL_law 339 = .ok (.aload_n 0, 1) := by decide +kernel
theorem dL_law_340 : decode cL_law 340 = .ok (.iload_n 3, 1) := by decide +kernel
theorem dL_law_341 : decode cL_law 341 = .ok (.iconst 1, 1) := by decide +kernel
theorem dL_law_342 : decode cL_law 342 = .ok (.iadd, 1) := by decide +kernel
theorem dL_law_343 : decode cL_law 343 = .ok (.iaload, 1) := by decide +kernel
theorem dL_law_344 : decode cL_law 344 = .ok (.aload_n 0, 1) := by decide +kernel
theorem dL_law_345 : decode cL_law 345 = .ok (.iload_n 3, 1) := by decide +kernel
theorem dL_law_346 : decode cL_law 346 = .ok (.iconst 2, 1) := by decide +kernel
theorem dL_law_347 : decode cL_law 347 = .ok (.iadd, 1) := by decide +kernel
theorem dL_law_348 : decode cL_law 348 = .ok (.iaload, 1) := by decide +kernel
theorem dL_law_349 : decode cL_law 349 = .ok (.aload_n 0, 1) := by decide +kernel
theorem dL_law_350 : decode cL_law 350 = .ok (.iload_n 3, 1) := by decide +kernel
theorem dL_law_351 : decode cL_law 351 = .ok (.iconst 3, 1) := by decide +kernel
theorem dL_law_352 : decode cL_law 352 = .ok (.iadd, 1) := by decide +kernel
theorem dL_law_353 : decode cL_law 353 = .ok (.iaload, 1) := by decide +kernel
theorem dL_law_354 : decode cL_law 354 = .ok (.aload_n 0, 1) := by decide +kernel
theorem dL_law_355 : decode cL_law 355 = .ok (.iload_n 3, 1) := by decide +kernel
theorem dL_law_356 : decode cL_law 356 = .ok (.iconst 4, 1) := by decide +kernel
theorem dL_law_357 : decode cL_law 357 = .ok (.iadd, 1) := by decide +kernel
theorem dL_law_358 : decode cL_law 358 = .ok (.iaload, 1) := by decide +kernel
theorem dL_law_359 : decode cL_law 359 = .ok (.aload_n 0, 1) := by decide +kernel
theorem dL_law_360 : decode cL_law 360 = .ok (.iload_n 3, 1) := by decide +kernel
theorem dL_law_361 : decode cL_law 361 = .ok (.iconst 5, 1) := by decide +kernel
theorem dL_law_362 : decode cL_law 362 = .ok (.iadd, 1) := by decide +kernel
theorem dL_law_363 : decode cL_law 363 = .ok (.iaload, 1) := by decide +kernel
theorem dL_law_364 : decode cL_law 364 = .ok (.invokevirtual 41, 3) := by decide +kernel
theorem dL_law_367 : decode cL_law 367 = .ok (.aload_n 2, 1) := by decide +kernel
theorem dL_law_368 : decode cL_law 368 = .ok (.aload_n 0, 1) := by decide +kernel
theorem dL_law_369 : decode cL_law 369 = .ok (.iload_n 3, 1) := by decide +kernel
theorem dL_law_370 : decode cL_law 370 = .ok (.iconst 1, 1) := by decide +kernel
theorem dL_law_371 : decode cL_law 371 = .ok (.iadd, 1) := by decide +kernel
theorem dL_law_372 : decode cL_law 372 = .ok (.iaload, 1) := by decide +kernel
theorem dL_law_373 : decode cL_law 373 = .ok (.aload_n 0, 1) := by decide +kernel
theorem dL_law_374 : decode cL_law 374 = .ok (.iload_n 3, 1) := by decide +kernel
theorem dL_law_375 : decode cL_law 375 = .ok (.iconst 2, 1) := by decide +kernel
theorem dL_law_376 : decode cL_law 376 = .ok (.iadd, 1) := by decide +kernel
theorem dL_law_377 : decode cL_law 377 = .ok (.iaload, 1) := by decide +kernel
theorem dL_law_378 : decode cL_law 378 = .ok (.aload_n 0, 1) := by decide +kernel
theorem dL_law_379 : decode cL_law 379 = .ok (.iload_n 3, 1) := by decide +kernel
theorem dL_law_380 : decode cL_law 380 = .ok (.iconst 3, 1) := by decide +kernel
theorem dL_law_381 : decode cL_law 381 = .ok (.iadd, 1) := by decide +kernel
theorem dL_law_382 : decode cL_law 382 = .ok (.iaload, 1) := by decide +kernel
theorem dL_law_383 : decode cL_law 383 = .ok (.aload_n 0, 1) := by decide +kernel
theorem dL_law_384 : decode cL_law 384 = .ok (.iload_n 3, 1) := by decide +kernel
theorem dL_law_385 : decode cL_law 385 = .ok (.iconst 4, 1) := by decide +kernel
theorem dL_law_386 : decode cL_law 386 = .ok (.iadd, 1) := by decide +kernel
theorem dL_law_387 : decode cL_law 387 = .ok (.iaload, 1) := by decide +kernel
theorem dL_law_388 : decode cL_law 388 = .ok (.aload_n 0, 1) := by decide +kernel
theorem dL_law_389 : decode cL_law 389 = .ok (.iload_n 3, 1) := by decide +kernel
theorem dL_law_390 : decode cL_law 390 = .ok (.iconst 5, 1) := by decide +kernel
theorem dL_law_391 : decode cL_law 391 = .ok (.iadd, 1) := by decide +kernel
theorem dL_law_392 : decode cL_law 392 = .ok (.iaload, 1) := by decide +kernel
theorem dL_law_393 : decode cL_law 393 = .ok (.invokevirtual 45, 3) := by decide +kernel
theorem dL_law_396 : decode cL_law 396 = .ok (.if_icmp .eq 513, 3) := by decide +kernel
theorem dL_law_399 : decode cL_law 399 = .ok (.iconst 0, 1) := by decide +kernel
theorem dL_law_400 : decode cL_law 400 = .ok (.ireturn, 1) := by decide +kernel
theorem dL_law_401 : decode cL_law 401 = .ok (.aload_n 1, 1) := by decide +kernel
theorem dL_law_402 : decode cL_law 402 = .ok (.aload_n 0, 1) := by decide +kernel
theorem dL_law_403 : decode cL_law 403 = .ok (.iload_n 3, 1) := by decide +kernel
theorem dL_law_404 : decode cL_law 404 = .ok (.iconst 1, 1) := by decide +kernel
theorem dL_law_405 : decode cL_law 405 = .ok (.iadd, 1) := by decide +kernel
theorem dL_law_406 : decode cL_law 406 = .ok (.iaload, 1) := by decide +kernel
theorem dL_law_407 : decode cL_law 407 = .ok (.invokevirtual 46, 3) := by decide +kernel
theorem dL_law_410 : decode cL_law 410 = .ok (.aload_n 2, 1) := by decide +kernel
theorem dL_law_411 : decode cL_law 411 = .ok (.aload_n 0, 1) := by decide +kernel
theorem dL_law_412 : decode cL_law 412 = .ok (.iload_n 3, 1) := by decide +kernel
theorem dL_law_413 : decode cL_law 413 = .ok (.iconst 1, 1) := by decide +kernel
theorem dL_law_414 : decode cL_law 414 = .ok (.iadd, 1) := by decide +kernel
theorem dL_law_415 : decode cL_law 415 = .ok (.iaload, 1) := by decide +kernel
theorem dL_law_416 : decode cL_law 416 = .ok (.invokevirtual 49, 3) := by decide +kernel
theorem dL_law_419 : decode cL_law 419 = .ok (.if_icmp .eq 490, 3) := by decide +kernel
theorem dL_law_422 : decode cL_law 422 = .ok (.iconst 0, 1) := by decide +kernel
theorem dL_law_423 : decode cL_law 423 = .ok (.ireturn, 1) := by decide +kernel
theorem dL_law_424 : decode cL_law 424 = .ok (.aload_n 1, 1) := by decide +kernel
theorem dL_law_425 : decode cL_law 425 = .ok (.aload_n 0, 1) := by decide +kernel
theorem dL_law_426 : decode cL_law 426 = .ok (.iload_n 3, 1) := by decide +kernel
theorem dL_law_427 : decode cL_law 427 = .ok (.iconst 1, 1) := by decide +kernel
theorem dL_law_428 : decode cL_law 428 = .ok (.iadd, 1) := by decide +kernel
theorem dL_law_429 : decode cL_law 429 = .ok (.iaload, 1) := by decide +kernel
theorem dL_law_430 : decode cL_law 430 = .ok (.invokevirtual 50, 3) := by decide +kernel
theorem dL_law_433 : decode cL_law 433 = .ok (.aload_n 2, 1) := by decide +kernel
theorem dL_law_434 : decode cL_law 434 = .ok (.aload_n 0, 1) := by decide +kernel
theorem dL_law_435 : decode cL_law 435 = .ok (.iload_n 3, 1) := by decide +kernel
theorem dL_law_436 : decode cL_law 436 = .ok (.iconst 1, 1) := by decide +kernel
theorem dL_law_437 : decode cL_law 437 = .ok (.iadd, 1) := by decide +kernel
theorem dL_law_438 : decode cL_law 438 = .ok (.iaload, 1) := by decide +kernel
theorem dL_law_439 : decode cL_law 439 = .ok (.invokevirtual 53, 3) := by decide +kernel
theorem dL_law_442 : decode cL_law 442 = .ok (.if_icmp .eq 467, 3) := by decide +kernel
theorem dL_law_445 : decode cL_law 445 = .ok (.iconst 0, 1) := by decide +kernel
theorem dL_law_446 : decode cL_law 446 = .ok (.ireturn, 1) := by decide +kernel
theorem dL_law_447 : decode cL_law 447 = .ok (.aload_n 1, 1) := by decide +kernel
theorem dL_law_448 : decode cL_law 448 = .ok (.aload_n 0, 1) := by decide +kernel
theorem dL_law_449 : decode cL_law 449 = .ok (.iload_n 3, 1) := by decide +kernel
theorem dL_law_450 : decode cL_law 450 = .ok (.iconst 1, 1) := by decide +kernel
theorem dL_law_451 : decode cL_law 451 = .ok (.iadd, 1) := by decide +kernel
theorem dL_law_452 : decode cL_law 452 = .ok (.iaload, 1) := by decide +kernel
theorem dL_law_453 : decode cL_law 453 = .ok (.invokevirtual 54, 3) := by decide +kernel
theorem dL_law_456 : decode cL_law 456 = .ok (.aload_n 2, 1) := by decide +kernel
theorem dL_law_457 : decode cL_law 457 = .ok (.aload_n 0, 1) := by decide +kernel
theorem dL_law_458 : decode cL_law 458 = .ok (.iload_n 3, 1) := by decide +kernel
theorem dL_law_459 : decode cL_law 459 = .ok (.iconst 1, 1) := by decide +kernel
theorem dL_law_460 : decode cL_law 460 = .ok (.iadd, 1) := by decide +kernel
theorem dL_law_461 : decode cL_law 461 = .ok (.iaload, 1) := by decide +kernel
theorem dL_law_462 : decode cL_law 462 = .ok (.invokevirtual 57, 3) := by decide +kernel
theorem dL_law_465 : decode cL_law 465 = .ok (.if_icmp .eq 444, 3) := by decide +kernel
theorem dL_law_468 : decode cL_law 468 = .ok (.iconst 0, 1) := by decide +kernel
theorem dL_law_469 : decode cL_law 469 = .ok (.ireturn, 1) := by decide +kernel
theorem dL_law_470 : decode cL_law 470 = .ok (.aload_n 1, 1) := by decide +kernel
theorem dL_law_471 : decode cL_law 471 = .ok (.aload_n 0, 1) := by decide +kernel
theorem dL_law_472 : decode cL_law 472 = .ok (.iload_n 3, 1) := by decide +kernel
theorem dL_law_473 : decode cL_law 473 = .ok (.iconst 1, 1) := by decide +kernel
theorem dL_law_474 : decode cL_law 474 = .ok (.iadd, 1) := by decide +kernel
theorem dL_law_475 : decode cL_law 475 = .ok (.iaload, 1) := by decide +kernel
theorem dL_law_476 : decode cL_law 476 = .ok (.invokevirtual 58, 3) := by decide +kernel
theorem dL_law_479 : decode cL_law 479 = .ok (.aload_n 2, 1) := by decide +kernel
theorem dL_law_480 : decode cL_law 480 = .ok (.aload_n 0, 1) := by decide +kernel
theorem dL_law_481 : decode cL_law 481 = .ok (.iload_n 3, 1) := by decide +kernel
theorem dL_law_482 : decode cL_law 482 = .ok (.iconst 1, 1) := by decide +kernel
theorem dL_law_483 : decode cL_law 483 = .ok (.iadd, 1) := by decide +kernel
theorem dL_law_484 : decode cL_law 484 = .ok (.iaload, 1) := by decide +kernel
theorem dL_law_485 : decode cL_law 485 = .ok (.invokevirtual 61, 3) := by decide +kernel
theorem dL_law_488 : decode cL_law 488 = .ok (.if_icmp .eq 421, 3) := by decide +kernel
theorem dL_law_491 : decode cL_law 491 = .ok (.iconst 0, 1) := by decide +kernel
theorem dL_law_492 : decode cL_law 492 = .ok (.ireturn, 1) := by decide +kernel
theorem dL_law_493 : decode cL_law 493 = .ok (.aload_n 1, 1) := by decide +kernel
theorem dL_law_494 : decode cL_law 494 = .ok (.aload_n 0, 1) := by decide +kernel
theorem dL_law_495 : decode cL_law 495 = .ok (.iload_n 3, 1) := by decide +kernel
theorem dL_law_496 : decode cL_law 496 = .ok (.iconst 1, 1) := by decide +kernel
theorem dL_law_497 : decode cL_law 497 = .ok (.iadd, 1) := by decide +kernel
theorem dL_law_498 : decode cL_law 498 = .ok (.iaload, 1) := by decide +kernel
theorem dL_law_499 : decode cL_law 499 = .ok (.aload_n 0, 1) := by decide +kernel
theorem dL_law_500 : decode cL_law 500 = .ok (.iload_n 3, 1) := by decide +kernel
theorem dL_law_501 : decode cL_law 501 = .ok (.iconst 2, 1) := by decide +kernel
theorem dL_law_502 : decode cL_law 502 = .ok (.iadd, 1) := by decide +kernel
theorem dL_law_503 : decode cL_law 503 = .ok (.iaload, 1) := by decide +kernel
theorem dL_law_504 : decode cL_law 504 = .ok (.invokevirtual 62, 3) := by decide +kernel
theorem dL_law_507 : decode cL_law 507 = .ok (.aload_n 2, 1) := by decide +kernel
theorem dL_law_508 : decode cL_law 508 = .ok (.aload_n 0, 1) := by decide +kernel
theorem dL_law_509 : decode cL_law 509 = .ok (.iload_n 3, 1) := by decide +kernel
theorem dL_law_510 : decode cL_law 510 = .ok (.iconst 1, 1) := by decide +kernel
theorem dL_law_511 : decode cL_law 511 = .ok (.iadd, 1) := by decide +kernel
theorem dL_law_512 : decode cL_law 512 = .ok (.iaload, 1) := by decide +kernel
theorem dL_law_513 : decode cL_law 513 = .ok (.aload_n 0, 1) := by decide +kernel
theorem dL_law_514 : decode cL_law 514 = .ok (.iload_n 3, 1) := by decide +kernel
theorem dL_law_515 : decode cL_law 515 = .ok (.iconst 2, 1) := by decide +kernel
theorem dL_law_516 : decode cL_law 516 = .ok (.iadd, 1) := by decide +kernel
theorem dL_law_517 : decode cL_law 517 = .ok (.iaload, 1) := by decide +kernel
theorem dL_law_518 : decode cL_law 518 = .ok (.invokevirtual 66, 3) := by decide +kernel
theorem dL_law_521 : decode cL_law 521 = .ok (.if_icmp .eq 388, 3) := by decide +kernel
theorem dL_law_524 : decode cL_law 524 = .ok (.iconst 0, 1) := by decide +kernel
theorem dL_law_525 : decode cL_law 525 = .ok (.ireturn, 1) := by decide +kernel
theorem dL_law_526 : decode cL_law 526 = .ok (.aload_n 1, 1) := by decide +kernel
theorem dL_law_527 : decode cL_law 527 = .ok (.aload_n 0, 1) := by decide +kernel
theorem dL_law_528 : decode cL_law 528 = .ok (.iload_n 3, 1) := by decide +kernel
theorem dL_law_529 : decode cL_law 529 = .ok (.iconst 1, 1) := by decide +kernel
theorem dL_law_530 : decode cL_law 530 = .ok (.iadd, 1) := by decide +kernel
theorem dL_law_531 : decode cL_law 531 = .ok (.iaload, 1) := by decide +kernel
theorem dL_law_532 : decode cL_law 532 = .ok (.aload_n 0, 1) := by decide +kernel
theorem dL_law_533 : decode cL_law 533 = .ok (.iload_n 3, 1) := by decide +kernel
theorem dL_law_534 : decode cL_law 534 = .ok (.iconst 2, 1) := by decide +kernel
theorem dL_law_535 : decode cL_law 535 = .ok (.iadd, 1) := by decide +kernel
theorem dL_law_536 : decode cL_law 536 = .ok (.iaload, 1) := by decide +kernel
theorem dL_law_537 : decode cL_law 537 = .ok (.invokevirtual 67, 3) := by decide +kernel
theorem dL_law_540 : decode cL_law 540 = .ok (.aload_n 2, 1) := by decide +kernel
theorem dL_law_541 : decode cL_law 541 = .ok (.aload_n 0, 1) := by decide +kernel
theorem dL_law_542 : decode cL_law 542 = .ok (.iload_n 3, 1) := by decide +kernel
theorem dL_law_543 : decode cL_law 543 = .ok (.iconst 1, 1) := by decide +kernel
theorem dL_law_544 : decode cL_law 544 = .ok (.iadd, 1) := by decide +kernel
theorem dL_law_545 : decode cL_law 545 = .ok (.iaload, 1) := by decide +kernel
theorem dL_law_546 : decode cL_law 546 = .ok (.aload_n 0, 1) := by decide +kernel
theorem dL_law_547 : decode cL_law 547 = .ok (.iload_n 3, 1) := by decide +kernel
theorem dL_law_548 : decode cL_law 548 = .ok (.iconst 2, 1) := by decide +kernel
theorem dL_law_549 : decode cL_law 549 = .ok (.iadd, 1) := by decide +kernel
theorem dL_law_550 : decode cL_law 550 = .ok (.iaload, 1) := by decide +kernel
theorem dL_law_551 : decode cL_law 551 = .ok (.invokevirtual 70, 3) := by decide +kernel
theorem dL_law_554 : decode cL_law 554 = .ok (.if_icmp .eq 355, 3) := by decide +kernel
theorem dL_law_557 : decode cL_law 557 = .ok (.iconst 0, 1) := by decide +kernel
theorem dL_law_558 : decode cL_law 558 = .ok (.ireturn, 1) := by decide +kernel
theorem dL_law_559 : decode cL_law 559 = .ok (.aload_n 1, 1) := by decide +kernel
theorem dL_law_560 : decode cL_law 560 = .ok (.aload_n 0, 1) := by decide +kernel
theorem dL_law_561 : decode cL_law 561 = .ok (.iload_n 3, 1) := by decide +kernel
theorem dL_law_562 : decode cL_law 562 = .ok (.iconst 1, 1) := by decide +kernel
theorem dL_law_563 : decode cL_law 563 = .ok (.iadd, 1) := by decide +kernel
theorem dL_law_564 : decode cL_law 564 = .ok (.iaload, 1) := by decide +kernel
theorem dL_law_565 : decode cL_law 565 = .ok (.aload_n 0, 1) := by decide +kernel
theorem dL_law_566 : decode cL_law 566 = .ok (.iload_n 3, 1) := by decide +kernel
theorem dL_law_567 : decode cL_law 567 = .ok (.iconst 2, 1) := by decide +kernel
theorem dL_law_568 : decode cL_law 568 = .ok (.iadd, 1) := by decide +kernel
theorem dL_law_569 : decode cL_law 569 = .ok (.iaload, 1) := by decide +kernel
theorem dL_law_570 : decode cL_law 570 = .ok (.invokevirtual 71, 3) := by decide +kernel
theorem dL_law_573 : decode cL_law 573 = .ok (.aload_n 2, 1) := by decide +kernel
theorem dL_law_574 : decode cL_law 574 = .ok (.aload_n 0, 1) := by decide +kernel
theorem dL_law_575 : decode cL_law 575 = .ok (.iload_n 3, 1) := by decide +kernel
theorem dL_law_576 : decode cL_law 576 = .ok (.iconst 1, 1) := by decide +kernel
theorem dL_law_577 : decode cL_law 577 = .ok (.iadd, 1) := by decide +kernel
theorem dL_law_578 : decode cL_law 578 = .ok (.iaload, 1) := by decide +kernel
theorem dL_law_579 : decode cL_law 579 = .ok (.aload_n 0, 1) := by decide +kernel
theorem dL_law_580 : decode cL_law 580 = .ok (.iload_n 3, 1) := by decide +kernel
theorem dL_law_581 : decode cL_law 581 = .ok (.iconst 2, 1) := by decide +kernel
theorem dL_law_582 : decode cL_law 582 = .ok (.iadd, 1) := by decide +kernel
theorem dL_law_583 : decode cL_law 583 = .ok (.iaload, 1) := by decide +kernel
theorem dL_law_584 : decode cL_law 584 = .ok (.invokevirtual 74, 3) := by decide +kernel
theorem dL_law_587 : decode cL_law 587 = .ok (.if_icmp .eq 322, 3) := by decide +kernel
theorem dL_law_590 : decode cL_law 590 = .ok (.iconst 0, 1) := by decide +kernel
theorem dL_law_591 : decode cL_law 591 = .ok (.ireturn, 1) := by decide +kernel
theorem dL_law_592 : decode cL_law 592 = .ok (.aload_n 1, 1) := by decide +kernel
theorem dL_law_593 : decode cL_law 593 = .ok (.aload_n 0, 1) := by decide +kernel
theorem dL_law_594 : decode cL_law 594 = .ok (.iload_n 3, 1) := by decide +kernel
theorem dL_law_595 : decode cL_law 595 = .ok (.iconst 1, 1) := by decide +kernel
theorem dL_law_596 : decode cL_law 596 = .ok (.iadd, 1) := by decide +kernel
theorem dL_law_597 : decode cL_law 597 = .ok (.iaload, 1) := by decide +kernel
theorem dL_law_598 : decode cL_law 598 = .ok (.aload_n 0, 1) := by decide +kernel
theorem dL_law_599 : decode cL_law 599 = .ok (.iload_n 3, 1) := by decide +kernel
theorem dL_law_600 : decode cL_law 600 = .ok (.iconst 2, 1) := by decide +kernel
theorem dL_law_601 : decode cL_law 601 = .ok (.iadd, 1) := by decide +kernel
theorem dL_law_602 : decode cL_law 602 = .ok (.iaload, 1) := by decide +kernel
theorem dL_law_603 : decode cL_law 603 = .ok (.invokevirtual 75, 3) := by decide +kernel
theorem dL_law_606 : decode cL_law 606 = .ok (.aload_n 2, 1) := by decide +kernel
theorem dL_law_607 : decode cL_law 607 = .ok (.aload_n 0, 1) := by decide +kernel
theorem dL_law_608 : decode cL_law 608 = .ok (.iload_n 3, 1) := by decide +kernel
theorem dL_law_609 : decode cL_law 609 = .ok (.iconst 1, 1) := by decide +kernel
theorem dL_law_610 : decode cL_law 610 = .ok (.iadd, 1) := by decide +kernel
theorem dL_law_611 : decode cL_law 611 = .ok (.iaload, 1) := by decide +kernel
theorem dL_law_612 : decode cL_law 612 = .ok (.aload_n 0, 1) := by decide +kernel
theorem dL_law_613 : decode cL_law 613 = .ok (.iload_n 3, 1) := by decide +kernel
theorem dL_law_614 : decode cL_law 614 = .ok (.iconst 2, 1) := by decide +kernel
theorem dL_law_615 : decode cL_law 615 = .ok (.iadd, 1) := by decide +kernel
theorem dL_law_616 : decode cL_law 616 = .ok (.iaload, 1) := by decide +kernel
theorem dL_law_617 : decode cL_law 617 = .ok (.invokevirtual 78, 3) := by decide +kernel
theorem dL_law_620 : decode cL_law 620 = .ok (.if_icmp .eq 289, 3) := by decide +kernel
theorem dL_law_623 : decode cL_law 623 = .ok (.iconst 0, 1) := by decide +kernel
theorem dL_law_624 : decode cL_law 624 = .ok (.ireturn, 1) := by decide +kernel
theorem dL_law_625 : decode cL_law 625 = .ok (.aload_n 1, 1) := by decide +kernel
theorem dL_law_626 : decode cL_law 626 = .ok (.aload_n 0, 1) := by decide +kernel
theorem dL_law_627 : decode cL_law 627 = .ok (.iload_n 3, 1) := by decide +kernel
theorem dL_law_628 : decode cL_law 628 = .ok (.iconst 1, 1) := by decide +kernel
theorem dL_law_629 : decode cL_law 629 = .ok (.iadd, 1) := by decide +kernel
theorem dL_law_630 : decode cL_law 630 = .ok (.iaload, 1) := by decide +kernel
theorem dL_law_631 : decode cL_law 631 = .ok (.aload_n 0, 1) := by decide +kernel
theorem dL_law_632 : decode cL_law 632 = .ok (.iload_n 3, 1) := by decide +kernel
theorem dL_law_633 : decode cL_law 633 = .ok (.iconst 2, 1) := by decide +kernel
theorem dL_law_634 : decode cL_law 634 = .ok (.iadd, 1) := by decide +kernel
theorem dL_law_635 : decode cL_law 635 = .ok (.iaload, 1) := by decide +kernel
theorem dL_law_636 : decode cL_law 636 = .ok (.aload_n 0, 1) := by decide +kernel
theorem dL_law_637 : decode cL_law 637 = .ok (.iload_n 3, 1) := by decide +kernel
theorem dL_law_638 : decode cL_law 638 = .ok (.iconst 3, 1) := by decide +kernel
theorem dL_law_639 : decode cL_law 639 = .ok (.iadd, 1) := by decide +kernel
theorem dL_law_640 : decode cL_law 640 = .ok (.iaload, 1) := by decide +kernel
theorem dL_law_641 : decode cL_law 641 = .ok (.invokevirtual 79, 3) := by decide +kernel
theorem dL_law_644 : decode cL_law 644 = .ok (.aload_n 2, 1) := by decide +kernel
theorem dL_law_645 : decode cL_law 645 = .ok (.aload_n 0, 1) := by decide +kernel
theorem dL_law_646 : decode cL_law 646 = .ok (.iload_n 3, 1) := by decide +kernel
theorem dL_law_647 : decode cL_law 647 = .ok (.iconst 1, 1) := by decide +kernel
theorem dL_law_648 : decode cL_law 648 = .ok (.iadd, 1) := by decide +kernel
theorem dL_law_649 : decode cL_law 649 = .ok (.iaload, 1) := by decide +kernel
theorem dL_law_650 : decode cL_law 650 = .ok (.aload_n 0, 1) := by decide +kernel
theorem dL_law_651 : decode cL_law 651 = .ok (.iload_n 3, 1) := by decide +kernel
theorem dL_law_652 : decode cL_law 652 = .ok (.iconst 2, 1) := by decide +kernel
theorem dL_law_653 : decode cL_law 653 = .ok (.iadd, 1) := by decide +kernel
theorem dL_law_654 : decode cL_law 654 = .ok (.iaload, 1) := by decide +kernel
theorem dL_law_655 : decode cL_law 655 = .ok (.aload_n 0, 1) := by decide +kernel
theorem dL_law_656 : decode cL_law 656 = .ok (.iload_n 3, 1) := by decide +kernel
theorem dL_law_657 : decode cL_law 657 = .ok (.iconst 3, 1) := by decide +kernel
theorem dL_law_658 : decode cL_law 658 = .ok (.iadd, 1) := by decide +kernel
theorem dL_law_659 : decode cL_law 659 = .ok (.iaload, 1) := by decide +kernel
theorem dL_law_660 : decode cL_law 660 = .ok (.invokevirtual 83, 3) := by decide +kernel
theorem dL_law_663 : decode cL_law 663 = .ok (.if_icmp .eq 246, 3) := by decide +kernel
theorem dL_law_666 : decode cL_law 666 = .ok (.iconst 0, 1) := by decide +kernel
theorem dL_law_667 : decode cL_law 667 = .ok (.ireturn, 1) := by decide +kernel
theorem dL_law_668 : decode cL_law 668 = .ok (.aload_n 1, 1) := by decide +kernel
theorem dL_law_669 : decode cL_law 669 = .ok (.aload_n 0, 1) := by decide +kernel
theorem dL_law_670 : decode cL_law 670 = .ok (.iload_n 3, 1) := by decide +kernel
theorem dL_law_671 : decode cL_law 671 = .ok (.iconst 1, 1) := by decide +kernel
theorem dL_law_672 : decode cL_law 672 = .ok (.iadd, 1) := by decide +kernel
theorem dL_law_673 : decode cL_law 673 = .ok (.iaload, 1) := by decide +kernel
theorem dL_law_674 : decode cL_law 674 = .ok (.aload_n 0, 1) := by decide +kernel
theorem dL_law_675 : decode cL_law 675 = .ok (.iload_n 3, 1) := by decide +kernel
theorem dL_law_676 : decode cL_law 676 = .ok (.iconst 2, 1) := by decide +kernel
theorem dL_law_677 : decode cL_law 677 = .ok (.iadd, 1) := by decide +kernel
theorem dL_law_678 : decode cL_law 678 = .ok (.iaload, 1) := by decide +kernel
theorem dL_law_679 : decode cL_law 679 = .ok (.aload_n 0, 1) := by decide +kernel
theorem dL_law_680 : decode cL_law 680 = .ok (.iload_n 3, 1) := by decide +kernel
theorem dL_law_681 : decode cL_law 681 = .ok (.iconst 3, 1) := by decide +kernel
theorem dL_law_682 : decode cL_law 682 = .ok (.iadd, 1) := by decide +kernel
theorem dL_law_683 : decode cL_law 683 = .ok (.iaload, 1) := by decide +kernel
theorem dL_law_684 : decode cL_law 684 = .ok (.invokevirtual 84, 3) := by decide +kernel
theorem dL_law_687 : decode cL_law 687 = .ok (.aload_n 2, 1) := by decide +kernel
theorem dL_law_688 : decode cL_law 688 = .ok (.aload_n 0, 1) := by decide +kernel
theorem dL_law_689 : decode cL_law 689 = .ok (.iload_n 3, 1) := by decide +kernel
theorem dL_law_690 : decode cL_law 690 = .ok (.iconst 1, 1) := by decide +kernel
theorem dL_law_691 : decode cL_law 691 = .ok (.iadd, 1) := by decide +kernel
theorem dL_law_692 : decode cL_law 692 = .ok (.iaload, 1) := by decide +kernel
theorem dL_law_693 : decode cL_law 693 = .ok (.aload_n 0, 1) := by decide +kernel
theorem dL_law_694 : decode cL_law 694 = .ok (.iload_n 3, 1) := by decide +kernel
theorem dL_law_695 : decode cL_law 695 = .ok (.iconst 2, 1) := by decide +kernel
theorem dL_law_696 : decode cL_law 696 = .ok (.iadd, 1) := by decide +kernel
theorem dL_law_697 : decode cL_law 697 = .ok (.iaload, 1) := by decide +kernel
theorem dL_law_698 : decode cL_law 698 = .ok (.aload_n 0, 1) := by decide +kernel
theorem dL_law_699 : decode cL_law 699 = .ok (.iload_n 3, 1) := by decide +kernel
theorem dL_law_700 : decode cL_law 700 = .ok (.iconst 3, 1) := by decide +kernel
theorem dL_law_701 : decode cL_law 701 = .ok (.iadd, 1) := by decide +kernel
theorem dL_law_702 : decode cL_law 702 = .ok (.iaload, 1) := by decide +kernel
theorem dL_law_703 : decode cL_law 703 = .ok (.invokevirtual 87, 3) := by decide +kernel
theorem dL_law_706 : decode cL_law 706 = .ok (.if_icmp .eq 203, 3) := by decide +kernel
theorem dL_law_709 : decode cL_law 709 = .ok (.iconst 0, 1) := by decide +kernel
theorem dL_law_710 : decode cL_law 710 = .ok (.ireturn, 1) := by decide +kernel
theorem dL_law_711 : decode cL_law 711 = .ok (.aload_n 1, 1) := by decide +kernel
theorem dL_law_712 : decode cL_law 712 = .ok (.aload_n 0, 1) := by decide +kernel
theorem dL_law_713 : decode cL_law 713 = .ok (.iload_n 3, 1) := by decide +kernel
theorem dL_law_714 : decode cL_law 714 = .ok (.iconst 1, 1) := by decide +kernel
theorem dL_law_715 : decode cL_law 715 = .ok (.iadd, 1) := by decide +kernel
theorem dL_law_716 : decode cL_law 716 = .ok (.iaload, 1) := by decide +kernel
theorem dL_law_717 : decode cL_law 717 = .ok (.aload_n 0, 1) := by decide +kernel
theorem dL_law_718 : decode cL_law 718 = .ok (.iload_n 3, 1) := by decide +kernel
theorem dL_law_719 : decode cL_law 719 = .ok (.iconst 2, 1) := by decide +kernel
theorem dL_law_720 : decode cL_law 720 = .ok (.iadd, 1) := by decide +kernel
theorem dL_law_721 : decode cL_law 721 = .ok (.iaload, 1) := by decide +kernel
theorem dL_law_722 : decode cL_law 722 = .ok (.aload_n 0, 1) := by decide +kernel
theorem dL_law_723 : decode cL_law 723 = .ok (.iload_n 3, 1) := by decide +kernel
theorem dL_law_724 : decode cL_law 724 = .ok (.iconst 3, 1) := by decide +kernel
theorem dL_law_725 : decode cL_law 725 = .ok (.iadd, 1) := by decide +kernel
theorem dL_law_726 : decode cL_law 726 = .ok (.iaload, 1) := by decide +kernel
theorem dL_law_727 : decode cL_law 727 = .ok (.aload_n 0, 1) := by decide +kernel
theorem dL_law_728 : decode cL_law 728 = .ok (.iload_n 3, 1) := by decide +kernel
theorem dL_law_729 : decode cL_law 729 = .ok (.iconst 4, 1) := by decide +kernel
theorem dL_law_730 : decode cL_law 730 = .ok (.iadd, 1) := by decide +kernel
theorem dL_law_731 : decode cL_law 731 = .ok (.iaload, 1) := by decide +kernel
theorem dL_law_732 : decode cL_law 732 = .ok (.invokevirtual 88, 3) := by decide +kernel
theorem dL_law_735 : decode cL_law 735 = .ok (.aload_n 2, 1) := by decide +kernel
theorem dL_law_736 : decode cL_law 736 = .ok (.aload_n 0, 1) := by decide +kernel
theorem dL_law_737 : decode cL_law 737 = .ok (.iload_n 3, 1) := by decide +kernel
theorem dL_law_738 : decode cL_law 738 = .ok (.iconst 1, 1) := by decide +kernel
theorem dL_law_739 : decode cL_law 739 = .ok (.iadd, 1) := by decide +kernel
theorem dL_law_740 : decode cL_law 740 = .ok (.iaload, 1) := by decide +kernel
theorem dL_law_741 : decode cL_law 741 = .ok (.aload_n 0, 1) := by decide +kernel
theorem dL_law_742 : decode cL_law 742 = .ok (.iload_n 3, 1) := by decide +kernel
theorem dL_law_743 : decode cL_law 743 = .ok (.iconst 2, 1) := by decide +kernel
theorem dL_law_744 : decode cL_law 744 = .ok (.iadd, 1) := by decide +kernel
theorem dL_law_745 : decode cL_law 745 = .ok (.iaload, 1) := by decide +kernel
theorem dL_law_746 : decode cL_law 746 = .ok (.aload_n 0, 1) := by decide +kernel
theorem dL_law_747 : decode cL_law 747 = .ok (.iload_n 3, 1) := by decide +kernel
theorem dL_law_748 : decode cL_law 748 = .ok (.iconst 3, 1) := by decide +kernel
theorem dL_law_749 : decode cL_law 749 = .ok (.iadd, 1) := by decide +kernel
theorem dL_law_750 : decode cL_law 750 = .ok (.iaload, 1) := by decide +kernel
theorem dL_law_751 : decode cL_law 751 = .ok (.aload_n 0, 1) := by decide +kernel
theorem dL_law_752 : decode cL_law 752 = .ok (.iload_n 3, 1) := by decide +kernel
theorem dL_law_753 : decode cL_law 753 = .ok (.iconst 4, 1) := by decide +kernel
theorem dL_law_754 : decode cL_law 754 = .ok (.iadd, 1) := by decide +kernel
theorem dL_law_755 : decode cL_law 755 = .ok (.iaload, 1) := by decide +kernel
theorem dL_law_756 : decode cL_law 756 = .ok (.invokevirtual 91, 3) := by decide +kernel
theorem dL_law_759 : decode cL_law 759 = .ok (.if_icmp .eq 150, 3) := by decide +kernel
theorem dL_law_762 : decode cL_law 762 = .ok (.iconst 0, 1) := by decide +kernel
theorem dL_law_763 : decode cL_law 763 = .ok (.ireturn, 1) := by decide +kernel
theorem dL_law_764 : decode cL_law 764 = .ok (.aload_n 1, 1) := by decide +kernel
theorem dL_law_765 : decode cL_law 765 = .ok (.aload_n 0, 1) := by decide +kernel
theorem dL_law_766 : decode cL_law 766 = .ok (.iload_n 3, 1) := by decide +kernel
theorem dL_law_767 : decode cL_law 767 = .ok (.iconst 1, 1) := by decide +kernel
theorem dL_law_768 : decode cL_law 768 = .ok (.iadd, 1) := by decide +kernel
theorem dL_law_769 : decode cL_law 769 = .ok (.iaload, 1) := by decide +kernel
theorem dL_law_770 : decode cL_law 770 = .ok (.invokevirtual 92, 3) := by decide +kernel
theorem dL_law_773 : decode cL_law 773 = .ok (.aload_n 2, 1) := by decide +kernel
theorem dL_law_774 : decode cL_law 774 = .ok (.aload_n 0, 1) := by decide +kernel
theorem dL_law_775 : decode cL_law 775 = .ok (.iload_n 3, 1) := by decide +kernel
theorem dL_law_776 : decode cL_law 776 = .ok (.iconst 1, 1) := by decide +kernel
theorem dL_law_777 : decode cL_law 777 = .ok (.iadd, 1) := by decide +kernel
theorem dL_law_778 : decode cL_law 778 = .ok (.iaload, 1) := by decide +kernel
theorem dL_law_779 : decode cL_law 779 = .ok (.invokevirtual 95, 3) := by decide +kernel
theorem dL_law_782 : decode cL_law 782 = .ok (.if_icmp .eq 127, 3) := by decide +kernel
theorem dL_law_785 : decode cL_law 785 = .ok (.iconst 0, 1) := by decide +kernel
theorem dL_law_786 : decode cL_law 786 = .ok (.ireturn, 1) := by decide +kernel
theorem dL_law_787 : decode cL_law 787 = .ok (.aload_n 1, 1) := by decide +kernel
theorem dL_law_788 : decode cL_law 788 = .ok (.aload_n 0, 1) := by decide +kernel
theorem dL_law_789 : decode cL_law 789 = .ok (.iload_n 3, 1) := by decide +kernel
theorem dL_law_790 : decode cL_law 790 = .ok (.iconst 1, 1) := by decide +kernel
theorem dL_law_791 : decode cL_law 791 = .ok (.iadd, 1) := by decide +kernel
theorem dL_law_792 : decode cL_law 792 = .ok (.iaload, 1) := by decide +kernel
theorem dL_law_793 : decode cL_law 793 = .ok (.aload_n 0, 1) := by decide +kernel
theorem dL_law_794 : decode cL_law 794 = .ok (.iload_n 3, 1) := by decide +kernel
theorem dL_law_795 : decode cL_law 795 = .ok (.iconst 2, 1) := by decide +kernel
theorem dL_law_796 : decode cL_law 796 = .ok (.iadd, 1) := by decide +kernel
theorem dL_law_797 : decode cL_law 797 = .ok (.iaload, 1) := by decide +kernel
theorem dL_law_798 : decode cL_law 798 = .ok (.aload_n 0, 1) := by decide +kernel
theorem dL_law_799 : decode cL_law 799 = .ok (.iload_n 3, 1) := by decide +kernel
theorem dL_law_800 : decode cL_law 800 = .ok (.iconst 3, 1) := by decide +kernel
theorem dL_law_801 : decode cL_law 801 = .ok (.iadd, 1) := by decide +kernel
theorem dL_law_802 : decode cL_law 802 = .ok (.iaload, 1) := by decide +kernel
theorem dL_law_803 : decode cL_law 803 = .ok (.invokevirtual 96, 3) := by decide +kernel
theorem dL_law_806 : decode cL_law 806 = .ok (.aload_n 2, 1) := by decide +kernel
theorem dL_law_807 : decode cL_law 807 = .ok (.aload_n 0, 1) := by decide +kernel
theorem dL_law_808 : decode cL_law 808 = .ok (.iload_n 3, 1) := by decide +kernel
theorem dL_law_809 : decode cL_law 809 = .ok (.iconst 1, 1) := by decide +kernel
theorem dL_law_810 : decode cL_law 810 = .ok (.iadd, 1) := by decide +kernel
theorem dL_law_811 : decode cL_law 811 = .ok (.iaload, 1) := by decide +kernel
theorem dL_law_812 : decode cL_law 812 = .ok (.aload_n 0, 1) := by decide +kernel
theorem dL_law_813 : decode cL_law 813 = .ok (.iload_n 3, 1) := by decide +kernel
theorem dL_law_814 : decode cL_law 814 = .ok (.iconst 2, 1) := by decide +kernel
theorem dL_law_815 : decode cL_law 815 = .ok (.iadd, 1) := by decide +kernel
theorem dL_law_816 : decode cL_law 816 = .ok (.iaload, 1) := by decide +kernel
theorem dL_law_817 : decode cL_law 817 = .ok (.aload_n 0, 1) := by decide +kernel
theorem dL_law_818 : decode cL_law 818 = .ok (.iload_n 3, 1) := by decide +kernel
theorem dL_law_819 : decode cL_law 819 = .ok (.iconst 3, 1) := by decide +kernel
theorem dL_law_820 : decode cL_law 820 = .ok (.iadd, 1) := by decide +kernel
theorem dL_law_821 : decode cL_law 821 = .ok (.iaload, 1) := by decide +kernel
theorem dL_law_822 : decode cL_law 822 = .ok (.invokevirtual 99, 3) := by decide +kernel
theorem dL_law_825 : decode cL_law 825 = .ok (.if_icmp .eq 84, 3) := by decide +kernel
theorem dL_law_828 : decode cL_law 828 = .ok (.iconst 0, 1) := by decide +kernel
theorem dL_law_829 : decode cL_law 829 = .ok (.ireturn, 1) := by decide +kernel
theorem dL_law_830 : decode cL_law 830 = .ok (.aload_n 1, 1) := by decide +kernel
theorem dL_law_831 : decode cL_law 831 = .ok (.aload_n 0, 1) := by decide +kernel
theorem dL_law_832 : decode cL_law 832 = .ok (.iload_n 3, 1) := by decide +kernel
theorem dL_law_833 : decode cL_law 833 = .ok (.iconst 1, 1) := by decide +kernel
theorem dL_law_834 : decode cL_law 834 = .ok (.iadd, 1) := by decide +kernel
theorem dL_law_835 : decode cL_law 835 = .ok (.iaload, 1) := by decide +kernel
theorem dL_law_836 : decode cL_law 836 = .ok (.invokevirtual 100, 3) := by decide +kernel
theorem dL_law_839 : decode cL_law 839 = .ok (.aload_n 2, 1) := by decide +kernel
theorem dL_law_840 : decode cL_law 840 = .ok (.aload_n 0, 1) := by decide +kernel
theorem dL_law_841 : decode cL_law 841 = .ok (.iload_n 3, 1) := by decide +kernel
theorem dL_law_842 : decode cL_law 842 = .ok (.iconst 1, 1) := by decide +kernel
theorem dL_law_843 : decode cL_law 843 = .ok (.iadd, 1) := by decide +kernel
theorem dL_law_844 : decode cL_law 844 = .ok (.iaload, 1) := by decide +kernel
theorem dL_law_845 : decode cL_law 845 = .ok (.invokevirtual 103, 3) := by decide +kernel
theorem dL_law_848 : decode cL_law 848 = .ok (.if_icmp .eq 61, 3) := by decide +kernel
theorem dL_law_851 : decode cL_law 851 = .ok (.iconst 0, 1) := by decide +kernel
theorem dL_law_852 : decode cL_law 852 = .ok (.ireturn, 1) := by decide +kernel
theorem dL_law_853 : decode cL_law 853 = .ok (.aload_n 1, 1) := by decide +kernel
theorem dL_law_854 : decode cL_law 854 = .ok (.aload_n 0, 1) := by decide +kernel
theorem dL_law_855 : decode cL_law 855 = .ok (.iload_n 3, 1) := by decide +kernel
theorem dL_law_856 : decode cL_law 856 = .ok (.iconst 1, 1) := by decide +kernel
theorem dL_law_857 : decode cL_law 857 = .ok (.iadd, 1) := by decide +kernel
theorem dL_law_858 : decode cL_law 858 = .ok (.iaload, 1) := by decide +kernel
theorem dL_law_859 : decode cL_law 859 = .ok (.aload_n 0, 1) := by decide +kernel
theorem dL_law_860 : decode cL_law 860 = .ok (.iload_n 3, 1) := by decide +kernel
theorem dL_law_861 : decode cL_law 861 = .ok (.iconst 2, 1) := by decide +kernel
theorem dL_law_862 : decode cL_law 862 = .ok (.iadd, 1) := by decide +kernel
theorem dL_law_863 : decode cL_law 863 = .ok (.iaload, 1) := by decide +kernel
theorem dL_law_864 : decode cL_law 864 = .ok (.invokevirtual 104, 3) := by decide +kernel
theorem dL_law_867 : decode cL_law 867 = .ok (.aload_n 2, 1) := by decide +kernel
theorem dL_law_868 : decode cL_law 868 = .ok (.aload_n 0, 1) := by decide +kernel
theorem dL_law_869 : decode cL_law 869 = .ok (.iload_n 3, 1) := by decide +kernel
theorem dL_law_870 : decode cL_law 870 = .ok (.iconst 1, 1) := by decide +kernel
theorem dL_law_871 : decode cL_law 871 = .ok (.iadd, 1) := by decide +kernel
theorem dL_law_872 : decode cL_law 872 = .ok (.iaload, 1) := by decide +kernel
theorem dL_law_873 : decode cL_law 873 = .ok (.aload_n 0, 1) := by decide +kernel
theorem dL_law_874 : decode cL_law 874 = .ok (.iload_n 3, 1) := by decide +kernel
theorem dL_law_875 : decode cL_law 875 = .ok (.iconst 2, 1) := by decide +kernel
theorem dL_law_876 : decode cL_law 876 = .ok (.iadd, 1) := by decide +kernel
theorem dL_law_877 : decode cL_law 877 = .ok (.iaload, 1) := by decide +kernel
theorem dL_law_878 : decode cL_law 878 = .ok (.invokevirtual 107, 3) := by decide +kernel
theorem dL_law_881 : decode cL_law 881 = .ok (.if_icmp .eq 28, 3) := by decide +kernel
theorem dL_law_884 : decode cL_law 884 = .ok (.iconst 0, 1) := by decide +kernel
theorem dL_law_885 : decode cL_law 885 = .ok (.ireturn, 1) := by decide +kernel
theorem dL_law_886 : decode cL_law 886 = .ok (.aload_n 1, 1) := by decide +kernel
theorem dL_law_887 : decode cL_law 887 = .ok (.aload_n 0, 1) := by decide +kernel
theorem dL_law_888 : decode cL_law 888 = .ok (.iload_n 3, 1) := by decide +kernel
theorem dL_law_889 : decode cL_law 889 = .ok (.iconst 1, 1) := by decide +kernel
theorem dL_law_890 : decode cL_law 890 = .ok (.iadd, 1) := by decide +kernel
theorem dL_law_891 : decode cL_law 891 = .ok (.iaload, 1) := by decide +kernel
theorem dL_law_892 : decode cL_law 892 = .ok (.invokevirtual 108, 3) := by decide +kernel
theorem dL_law_895 : decode cL_law 895 = .ok (.aload_n 2, 1) := by decide +kernel
theorem dL_law_896 : decode cL_law 896 = .ok (.aload_n 0, 1) := by decide +kernel
theorem dL_law_897 : decode cL_law 897 = .ok (.iload_n 3, 1) := by decide +kernel
theorem dL_law_898 : decode cL_law 898 = .ok (.iconst 1, 1) := by decide +kernel
theorem dL_law_899 : decode cL_law 899 = .ok (.iadd, 1) := by decide +kernel
theorem dL_law_900 : decode cL_law 900 = .ok (.iaload, 1) := by decide +kernel
theorem dL_law_901 : decode cL_law 901 = .ok (.invokevirtual 111, 3) := by decide +kernel
theorem dL_law_904 : decode cL_law 904 = .ok (.if_icmp .eq 5, 3) := by decide +kernel
theorem dL_law_907 : decode cL_law 907 = .ok (.iconst 0, 1) := by decide +kernel
theorem dL_law_908 : decode cL_law 908 = .ok (.ireturn, 1) := by decide +kernel
theorem dL_law_909 : decode cL_law 909 = .ok (.iinc 3 6, 3) := by decide +kernel
theorem dL_law_912 : decode cL_law 912 = .ok (.goto (-894), 3) := by decide +kernel
theorem dL_law_915 : decode cL_law 915 = .ok (.iconst 1, 1) := by decide +kernel
theorem dL_law_916 : decode cL_law 916 = .ok (.ireturn, 1) := by decide +kernel
