theorem dX0_init_0 : decode cX0_init 0 = .ok (.aload_n 0, 1) := by decide +kernel
theorem dX0_init_1 : decode cX0_init 1 = .ok (.invokespecial 3, 3) := by decide +kernel
theorem dX0_init_4 : decode cX0_init 4 = .ok (.aload_n 0, 1) := by decide +kernel
theorem dX0_init_5 : decode cX0_init 5 = .ok (.bipush 8, 2) := by decide +kernel
theorem dX0_init_7 : decode cX0_init 7 = .ok (.iconst 4, 1) := by decide +kernel
theorem dX0_init_8 : decode cX0_init 8 = .ok (.multianewarray 11 2, 4) := by decide +kernel
theorem dX0_init_12 : decode cX0_init 12 = .ok (.putfield 13, 3) := by decide +kernel
theorem dX0_init_15 : decode cX0_init 15 = .ok (.aload_n 0, 1) := by decide +kernel
theorem dX0_init_16 : decode cX0_init 16 = .ok (.iconst 4, 1) := by decide +kernel
theorem dX0_init_17 : decode cX0_init 17 = .ok (.newarray .int, 2) := by decide +kernel
theorem dX0_init_19 : decode cX0_init 19 = .ok (.putfield 16, 3) := by decide +kernel
theorem dX0_init_22 : decode cX0_init 22 = .ok (.aload_n 0, 1) := by decide +kernel
theorem dX0_init_23 : decode cX0_init 23 = .ok (.iconst 4, 1) := by decide +kernel
theorem dX0_init_24 : decode cX0_init 24 = .ok (.newarray .int, 2) := by decide +kernel
theorem dX0_init_26 : decode cX0_init 26 = .ok (.putfield 20, 3) := by decide +kernel
theorem dX0_init_29 : decode cX0_init 29 = .ok (.aload_n 0, 1) := by decide +kernel
theorem dX0_init_30 : decode cX0_init 30 = .ok (.iconst 4, 1) := by decide +kernel
theorem dX0_init_31 : decode cX0_init 31 = .ok (.newarray .int, 2) := by decide +kernel
theorem dX0_init_33 : decode cX0_init 33 = .ok (.putfield 23, 3) := by decide +kernel
theorem dX0_init_36 : decode cX0_init 36 = .ok (.return_, 1) := by decide +kernel
theorem dX0_size_0 : decode cX0_size 0 = .ok (.aload_n 0, 1) := by decide +kernel
theorem dX0_size_1 : decode cX0_size 1 = .ok (.getfield 26, 3) := by decide +kernel
theorem dX0_size_4 : decode cX0_size 4 = .ok (.ireturn, 1) := by decide +kernel
theorem dX0_add_0 : decode cX0_add 0 = .ok (.iload_n 1, 1) := by decide +kernel
theorem dX0_add_1 : decode cX0_add 1 = .ok (.invokestatic 30, 3) := by decide +kernel
theorem dX0_add_4 : decode cX0_add 4 = .ok (.ifCond .eq 10, 3) := by decide +kernel
theorem dX0_add_7 : decode cX0_add 7 = .ok (.iload_n 2, 1) := by decide +kernel
theorem dX0_add_8 : decode cX0_add 8 = .ok (.invokestatic 30, 3) := by decide +kernel
theorem dX0_add_11 : decode cX0_add 11 = .ok (.ifCond .ne 5, 3) := by decide +kernel
theorem dX0_add_14 : decode cX0_add 14 = .ok (.iconst (-1), 1) := by decide +kernel
theorem dX0_add_15 : decode cX0_add 15 = .ok (.ireturn, 1) := by decide +kernel
theorem dX0_add_16 : decode cX0_add 16 = .ok (.aload_n 0, 1) := by decide +kernel
theorem dX0_add_17 : decode cX0_add 17 = .ok (.getfield 26, 3) := by decide +kernel
theorem dX0_add_20 : decode cX0_add 20 = .ok (.bipush 8, 2) := by decide +kernel
theorem dX0_add_22 : decode cX0_add 22 = .ok (.if_icmp .lt 6, 3) := by decide +kernel
theorem dX0_add_25 : decode cX0_add 25 = .ok (.bipush (-3), 2) := by decide +kernel
theorem dX0_add_27 : decode cX0_add 27 = .ok (.ireturn, 1) := by decide +kernel
theorem dX0_add_28 : decode cX0_add 28 = .ok (.iconst 0, 1) := by decide +kernel
theorem dX0_add_29 : decode cX0_add 29 = .ok (.istore_n 3, 1) := by decide +kernel
theorem dX0_add_30 : decode cX0_add 30 = .ok (.iload_n 3, 1) := by decide +kernel
theorem dX0_add_31 : decode cX0_add 31 = .ok (.iconst 4, 1) := by decide +kernel
theorem dX0_add_32 : decode cX0_add 32 = .ok (.if_icmp .ge 31, 3) := by decide +kernel
theorem dX0_add_35 : decode cX0_add 35 = .ok (.aload_n 0, 1) := by decide +kernel
theorem dX0_add_36 : decode cX0_add 36 = .ok (.getfield 13, 3) := by decide +kernel
theorem dX0_add_39 : decode cX0_add 39 = .ok (.aload_n 0, 1) := by decide +kernel
theorem dX0_add_40 : decode cX0_add 40 = .ok (.getfield 26, 3) := by decide +kernel
theorem dX0_add_43 : decode cX0_add 43 = .ok (.aaload, 1) := by decide +kernel
theorem dX0_add_44 : decode cX0_add 44 = .ok (.iload_n 3, 1) := by decide +kernel
theorem dX0_add_45 : decode cX0_add 45 = .ok (.iload_n 1, 1) := by decide +kernel
theorem dX0_add_46 : decode cX0_add 46 = .ok (.iload_n 3, 1) := by decide +kernel
theorem dX0_add_47 : decode cX0_add 47 = .ok (.invokestatic 34, 3) := by decide +kernel
theorem dX0_add_50 : decode cX0_add 50 = .ok (.iload_n 2, 1) := by decide +kernel
theorem dX0_add_51 : decode cX0_add 51 = .ok (.iload_n 3, 1) := by decide +kernel
theorem dX0_add_52 : decode cX0_add 52 = .ok (.invokestatic 34, 3) := by decide +kernel
theorem dX0_add_55 : decode cX0_add 55 = .ok (.isub, 1) := by decide +kernel
theorem dX0_add_56 : decode cX0_add 56 = .ok (.iastore, 1) := by decide +kernel
theorem dX0_add_57 : decode cX0_add 57 = .ok (.iinc 3 1, 3) := by decide +kernel
theorem dX0_add_60 : decode cX0_add 60 = .ok (.goto (-30), 3) := by decide +kernel
theorem dX0_add_63 : decode cX0_add 63 = .ok (.aload_n 0, 1) := by decide +kernel
theorem dX0_add_64 : decode cX0_add 64 = .ok (.dup, 1) := by decide +kernel
theorem dX0_add_65 : decode cX0_add 65 = .ok (.getfield 26, 3) := by decide +kernel
theorem dX0_add_68 : decode cX0_add 68 = .ok (.iconst 1, 1) := by decide +kernel
theorem dX0_add_69 : decode cX0_add 69 = .ok (.iadd, 1) := by decide +kernel
theorem dX0_add_70 : decode cX0_add 70 = .ok (.putfield 26, 3) := by decide +kernel
theorem dX0_add_73 : decode cX0_add 73 = .ok (.aload_n 0, 1) := by decide +kernel
theorem dX0_add_74 : decode cX0_add 74 = .ok (.getfield 26, 3) := by decide +kernel
theorem dX0_add_77 : decode cX0_add 77 = .ok (.iconst 1, 1) := by decide +kernel
theorem dX0_add_78 : decode cX0_add 78 = .ok (.isub, 1) := by decide +kernel
theorem dX0_add_79 : decode cX0_add 79 = .ok (.ireturn, 1) := by decide +kernel
theorem dX0_areStanding_0 : decode cX0_areStanding 0 = .ok (.iload_n 0, 1) := by decide +kernel
theorem dX0_areStanding_1 : decode cX0_areStanding 1 = .ok (.ifCond .lt 10, 3) := by decide +kernel
theorem dX0_areStanding_4 : decode cX0_areStanding 4 = .ok (.iload_n 0, 1) := by decide +kernel
theorem dX0_areStanding_5 : decode cX0_areStanding 5 = .ok (.bipush 20, 2) := by decide +kernel
theorem dX0_areStanding_7 : decode cX0_areStanding 7 = .ok (.ishr, 1) := by decide +kernel
theorem dX0_areStanding_8 : decode cX0_areStanding 8 = .ok (.ifCond .eq 5, 3) := by decide +kernel
theorem dX0_areStanding_11 : decode cX0_areStanding 11 = .ok (.iconst 0, 1) := by decide +kernel
theorem dX0_areStanding_12 : decode cX0_areStanding 12 = .ok (.ireturn, 1) := by decide +kernel
theorem dX0_areStanding_13 : decode cX0_areStanding 13 = .ok (.iconst 0, 1) := by decide +kernel
theorem dX0_areStanding_14 : decode cX0_areStanding 14 = .ok (.istore_n 1, 1) := by decide +kernel
theorem dX0_areStanding_15 : decode cX0_areStanding 15 = .ok (.iload_n 1, 1) := by decide +kernel
theorem dX0_areStanding_16 : decode cX0_areStanding 16 = .ok (.iconst 4, 1) := by decide +kernel
theorem dX0_areStanding_17 : decode cX0_areStanding 17 = .ok (.if_icmp .ge 21, 3) := by decide +kernel
theorem dX0_areStanding_20 : decode cX0_areStanding 20 = .ok (.iload_n 0, 1) := by decide +kernel
theorem dX0_areStanding_21 : decode cX0_areStanding 21 = .ok (.iload_n 1, 1) := by decide +kernel
theorem dX0_areStanding_22 : decode cX0_areStanding 22 = .ok (.invokestatic 34, 3) := by decide +kernel
theorem dX0_areStanding_25 : decode cX0_areStanding 25 = .ok (.bipush 20, 2) := by decide +kernel
theorem dX0_areStanding_27 : decode cX0_areStanding 27 = .ok (.if_icmp .le 5, 3) := by decide +kernel
theorem dX0_areStanding_30 : decode cX0_areStanding 30 = .ok (.iconst 0, 1) := by decide +kernel
theorem dX0_areStanding_31 : decode cX0_areStanding 31 = .ok (.ireturn, 1) := by decide +kernel
theorem dX0_areStanding_32 : decode cX0_areStanding 32 = .ok (.iinc 1 1, 3) := by decide +kernel
theorem dX0_areStanding_35 : decode cX0_areStanding 35 = .ok (.goto (-20), 3) := by decide +kernel
theorem dX0_areStanding_38 : decode cX0_areStanding 38 = .ok (.iconst 1, 1) := by decide +kernel
theorem dX0_areStanding_39 : decode cX0_areStanding 39 = .ok (.ireturn, 1) := by decide +kernel
theorem dX0_standing_0 : decode cX0_standing 0 = .ok (.iload_n 0, 1) := by decide +kernel
theorem dX0_standing_1 : decode cX0_standing 1 = .ok (.iconst 5, 1) := by decide +kernel
theorem dX0_standing_2 : decode cX0_standing 2 = .ok (.iload_n 1, 1) := by decide +kernel
theorem dX0_standing_3 : decode cX0_standing 3 = .ok (.imul, 1) := by decide +kernel
theorem dX0_standing_4 : decode cX0_standing 4 = .ok (.ishr, 1) := by decide +kernel
theorem dX0_standing_5 : decode cX0_standing 5 = .ok (.bipush 31, 2) := by decide +kernel
theorem dX0_standing_7 : decode cX0_standing 7 = .ok (.iand, 1) := by decide +kernel
theorem dX0_standing_8 : decode cX0_standing 8 = .ok (.ireturn, 1) := by decide +kernel
theorem dX0_tellFits_0 : decode cX0_tellFits 0 = .ok (.iload_n 1, 1) := by decide +kernel
theorem dX0_tellFits_1 : decode cX0_tellFits 1 = .ok (.ifCond .lt 8, 3) := by decide +kernel
theorem dX0_tellFits_4 : decode cX0_tellFits 4 = .ok (.iload_n 1, 1) := by decide +kernel
theorem dX0_tellFits_5 : decode cX0_tellFits 5 = .ok (.iconst 4, 1) := by decide +kernel
theorem dX0_tellFits_6 : decode cX0_tellFits 6 = .ok (.if_icmp .le 5, 3) := by decide +kernel
theorem dX0_tellFits_9 : decode cX0_tellFits 9 = .ok (.iconst (-1), 1) := by decide +kernel
theorem dX0_tellFits_10 : decode cX0_tellFits 10 = .ok (.ireturn, 1) := by decide +kernel
theorem dX0_tellFits_11 : decode cX0_tellFits 11 = .ok (.aload_n 0, 1) := by decide +kernel
theorem dX0_tellFits_12 : decode cX0_tellFits 12 = .ok (.invokevirtual 38, 3) := by decide +kernel
theorem dX0_tellFits_15 : decode cX0_tellFits 15 = .ok (.iload_n 1, 1) := by decide +kernel
theorem dX0_tellFits_16 : decode cX0_tellFits 16 = .ok (.ifCond .ne 8, 3) := by decide +kernel
theorem dX0_tellFits_19 : decode cX0_tellFits 19 = .ok (.aload_n 0, 1) := by decide +kernel
theorem dX0_tellFits_20 : decode cX0_tellFits 20 = .ok (.getfield 41, 3) := by decide +kernel
theorem dX0_tellFits_23 : decode cX0_tellFits 23 = .ok (.ireturn, 1) := by decide +kernel
theorem dX0_tellFits_24 : decode cX0_tellFits 24 = .ok (.aload_n 0, 1) := by decide +kernel
theorem dX0_tellFits_25 : decode cX0_tellFits 25 = .ok (.getfield 41, 3) := by decide +kernel
theorem dX0_tellFits_28 : decode cX0_tellFits 28 = .ok (.ifCond .ne 8, 3) := by decide +kernel
theorem dX0_tellFits_31 : decode cX0_tellFits 31 = .ok (.bipush (-4), 2) := by decide +kernel
theorem dX0_tellFits_33 : decode cX0_tellFits 33 = .ok (.goto 14, 3) := by decide +kernel
theorem dX0_tellFits_36 : decode cX0_tellFits 36 = .ok (.aload_n 0, 1) := by decide +kernel
theorem dX0_tellFits_37 : decode cX0_tellFits 37 = .ok (.getfield 20, 3) := by decide +kernel
theorem dX0_tellFits_40 : decode cX0_tellFits 40 = .ok (.iload_n 1, 1) := by decide +kernel
theorem dX0_tellFits_41 : decode cX0_tellFits 41 = .ok (.iconst 1, 1) := by decide +kernel
theorem dX0_tellFits_42 : decode cX0_tellFits 42 = .ok (.isub, 1) := by decide +kernel
theorem dX0_tellFits_43 : decode cX0_tellFits 43 = .ok (.iaload, 1) := by decide +kernel
theorem dX0_tellFits_44 : decode cX0_tellFits 44 = .ok (.invokestatic 44, 3) := by decide +kernel
theorem dX0_tellFits_47 : decode cX0_tellFits 47 = .ok (.ireturn, 1) := by decide +kernel
theorem dX0_valuesSeen_0 : decode cX0_valuesSeen 0 = .ok (.iload_n 1, 1) := by decide +kernel
theorem dX0_valuesSeen_1 : decode cX0_valuesSeen 1 = .ok (.ifCond .lt 8, 3) := by decide +kernel
theorem dX0_valuesSeen_4 : decode cX0_valuesSeen 4 = .ok (.iload_n 1, 1) := by decide +kernel
theorem dX0_valuesSeen_5 : decode cX0_valuesSeen 5 = .ok (.iconst 4, 1) := by decide +kernel
theorem dX0_valuesSeen_6 : decode cX0_valuesSeen 6 = .ok (.if_icmp .lt 5, 3) := by decide +kernel
theorem dX0_valuesSeen_9 : decode cX0_valuesSeen 9 = .ok (.iconst (-1), 1) := by decide +kernel
theorem dX0_valuesSeen_10 : decode cX0_valuesSeen 10 = .ok (.ireturn, 1) := by decide +kernel
theorem dX0_valuesSeen_11 : decode cX0_valuesSeen 11 = .ok (.aload_n 0, 1) := by decide +kernel
theorem dX0_valuesSeen_12 : decode cX0_valuesSeen 12 = .ok (.invokevirtual 38, 3) := by decide +kernel
theorem dX0_valuesSeen_15 : decode cX0_valuesSeen 15 = .ok (.aload_n 0, 1) := by decide +kernel
theorem dX0_valuesSeen_16 : decode cX0_valuesSeen 16 = .ok (.getfield 23, 3) := by decide +kernel
theorem dX0_valuesSeen_19 : decode cX0_valuesSeen 19 = .ok (.iload_n 1, 1) := by decide +kernel
theorem dX0_valuesSeen_20 : decode cX0_valuesSeen 20 = .ok (.iaload, 1) := by decide +kernel
theorem dX0_valuesSeen_21 : decode cX0_valuesSeen 21 = .ok (.invokestatic 48, 3) := by decide +kernel
theorem dX0_valuesSeen_24 : decode cX0_valuesSeen 24 = .ok (.ireturn, 1) := by decide +kernel
theorem dX0_valueOf_0 : decode cX0_valueOf 0 = .ok (.iload_n 0, 1) := by decide +kernel
theorem dX0_valueOf_1 : decode cX0_valueOf 1 = .ok (.ifCond .lt 19, 3) := by decide +kernel
theorem dX0_valueOf_4 : decode cX0_valueOf 4 = .ok (.iload_n 0, 1) := by decide +kernel
theorem dX0_valueOf_5 : decode cX0_valueOf 5 = .ok (.getstatic 53, 3) := by decide +kernel
theorem dX0_valueOf_8 : decode cX0_valueOf 8 = .ok (.arraylength, 1) := by decide +kernel
theorem dX0_valueOf_9 : decode cX0_valueOf 9 = .ok (.if_icmp .ge 11, 3) := by decide +kernel
theorem dX0_valueOf_12 : decode cX0_valueOf 12 = .ok (.getstatic 53, 3) := by decide +kernel
theorem dX0_valueOf_15 : decode cX0_valueOf 15 = .ok (.iload_n 0, 1) := by decide +kernel
theorem dX0_valueOf_16 : decode cX0_valueOf 16 = .ok (.iaload, 1) := by decide +kernel
theorem dX0_valueOf_17 : decode cX0_valueOf 17 = .ok (.goto 4, 3) := by decide +kernel
theorem dX0_valueOf_20 : decode cX0_valueOf 20 = .ok (.iconst 0, 1) := by decide +kernel
theorem dX0_valueOf_21 : decode cX0_valueOf 21 = .ok (.ireturn, 1) := by decide +kernel
theorem dX0_search_0 : decode cX0_search 0 = .ok (.aload_n 0, 1) := by decide +kernel
theorem dX0_search_1 : decode cX0_search 1 = .ok (.iconst 0, 1) := by decide +kernel
theorem dX0_search_2 : decode cX0_search 2 = .ok (.putfield 41, 3) := by decide +kernel
theorem dX0_search_5 : decode cX0_search 5 = .ok (.iconst 0, 1) := by decide +kernel
theorem dX0_search_6 : decode cX0_search 6 = .ok (.istore_n 1, 1) := by decide +kernel
theorem dX0_search_7 : decode cX0_search 7 = .ok (.iload_n 1, 1) := by decide +kernel
theorem dX0_search_8 : decode cX0_search 8 = .ok (.iconst 4, 1) := by decide +kernel
theorem dX0_search_9 : decode cX0_search 9 = .ok (.if_icmp .ge 16, 3) := by decide +kernel
theorem dX0_search_12 : decode cX0_search 12 = .ok (.aload_n 0, 1) := by decide +kernel
theorem dX0_search_13 : decode cX0_search 13 = .ok (.getfield 23, 3) := by decide +kernel
theorem dX0_search_16 : decode cX0_search 16 = .ok (.iload_n 1, 1) := by decide +kernel
theorem dX0_search_17 : decode cX0_search 17 = .ok (.iconst 0, 1) := by decide +kernel
theorem dX0_search_18 : decode cX0_search 18 = .ok (.iastore, 1) := by decide +kernel
theorem dX0_search_19 : decode cX0_search 19 = .ok (.iinc 1 1, 3) := by decide +kernel
theorem dX0_search_22 : decode cX0_search 22 = .ok (.goto (-15), 3) := by decide +kernel
theorem dX0_search_25 : decode cX0_search 25 = .ok (.iconst 0, 1) := by decide +kernel
theorem dX0_search_26 : decode cX0_search 26 = .ok (.istore_n 1, 1) := by decide +kernel
theorem dX0_search_27 : decode cX0_search 27 = .ok (.iload_n 1, 1) := by decide +kernel
theorem dX0_search_28 : decode cX0_search 28 = .ok (.sipush 4096, 3) := by decide +kernel
theorem dX0_search_31 : decode cX0_search 31 = .ok (.if_icmp .ge 56, 3) := by decide +kernel
theorem dX0_search_34 : decode cX0_search 34 = .ok (.iconst 0, 1) := by decide +kernel
theorem dX0_search_35 : decode cX0_search 35 = .ok (.istore_n 2, 1) := by decide +kernel
theorem dX0_search_36 : decode cX0_search 36 = .ok (.iload_n 2, 1) := by decide +kernel
theorem dX0_search_37 : decode cX0_search 37 = .ok (.iconst 4, 1) := by decide +kernel
theorem dX0_search_38 : decode cX0_search 38 = .ok (.if_icmp .ge 25, 3) := by decide +kernel
theorem dX0_search_41 : decode cX0_search 41 = .ok (.aload_n 0, 1) := by decide +kernel
theorem dX0_search_42 : decode cX0_search 42 = .ok (.getfield 16, 3) := by decide +kernel
theorem dX0_search_45 : decode cX0_search 45 = .ok (.iload_n 2, 1) := by decide +kernel
theorem dX0_search_46 : decode cX0_search 46 = .ok (.iload_n 1, 1) := by decide +kernel
theorem dX0_search_47 : decode cX0_search 47 = .ok (.iconst 3, 1) := by decide +kernel
theorem dX0_search_48 : decode cX0_search 48 = .ok (.iconst 3, 1) := by decide +kernel
theorem dX0_search_49 : decode cX0_search 49 = .ok (.iload_n 2, 1) := by decide +kernel
theorem dX0_search_50 : decode cX0_search 50 = .ok (.isub, 1) := by decide +kernel
theorem dX0_search_51 : decode cX0_search 51 = .ok (.imul, 1) := by decide +kernel
theorem dX0_search_52 : decode cX0_search 52 = .ok (.ishr, 1) := by decide +kernel
theorem dX0_search_53 : decode cX0_search 53 = .ok (.bipush 7, 2) := by decide +kernel
theorem dX0_search_55 : decode cX0_search 55 = .ok (.iand, 1) := by decide +kernel
theorem dX0_search_56 : decode cX0_search 56 = .ok (.iastore, 1) := by decide +kernel
theorem dX0_search_57 : decode cX0_search 57 = .ok (.iinc 2 1, 3) := by decide +kernel
theorem dX0_search_60 : decode cX0_search 60 = .ok (.goto (-24), 3) := by decide +kernel
theorem dX0_search_63 : decode cX0_search 63 = .ok (.aload_n 0, 1) := by decide +kernel
theorem dX0_search_64 : decode cX0_search 64 = .ok (.invokevirtual 56, 3) := by decide +kernel
theorem dX0_search_67 : decode cX0_search 67 = .ok (.ifCond .eq 14, 3) := by decide +kernel
theorem dX0_search_70 : decode cX0_search 70 = .ok (.aload_n 0, 1) := by decide +kernel
theorem dX0_search_71 : decode cX0_search 71 = .ok (.invokevirtual 60, 3) := by decide +kernel
theorem dX0_search_74 : decode cX0_search 74 = .ok (.ifCond .eq 7, 3) := by decide +kernel
theorem dX0_search_77 : decode cX0_search 77 = .ok (.aload_n 0, 1) := by decide +kernel
theorem dX0_search_78 : decode cX0_search 78 = .ok (.invokevirtual 63, 3) := by decide +kernel
theorem dX0_search_81 : decode cX0_search 81 = .ok (.iinc 1 1, 3) := by decide +kernel
theorem dX0_search_84 : decode cX0_search 84 = .ok (.goto (-57), 3) := by decide +kernel
theorem dX0_search_87 : decode cX0_search 87 = .ok (.return_, 1) := by decide +kernel
theorem dX0_areUnlike_0 : decode cX0_areUnlike 0 = .ok (.iconst 0, 1) := by decide +kernel
theorem dX0_areUnlike_1 : decode cX0_areUnlike 1 = .ok (.istore_n 1, 1) := by decide +kernel
theorem dX0_areUnlike_2 : decode cX0_areUnlike 2 = .ok (.iconst 0, 1) := by decide +kernel
theorem dX0_areUnlike_3 : decode cX0_areUnlike 3 = .ok (.istore_n 2, 1) := by decide +kernel
theorem dX0_areUnlike_4 : decode cX0_areUnlike 4 = .ok (.iload_n 2, 1) := by decide +kernel
theorem dX0_areUnlike_5 : decode cX0_areUnlike 5 = .ok (.iconst 4, 1) := by decide +kernel
theorem dX0_areUnlike_6 : decode cX0_areUnlike 6 = .ok (.if_icmp .ge 20, 3) := by decide +kernel
theorem dX0_areUnlike_9 : decode cX0_areUnlike 9 = .ok (.iload_n 1, 1) := by decide +kernel
theorem dX0_areUnlike_10 : decode cX0_areUnlike 10 = .ok (.iconst 1, 1) := by decide +kernel
theorem dX0_areUnlike_11 : decode cX0_areUnlike 11 = .ok (.aload_n 0, 1) := by decide +kernel
theorem dX0_areUnlike_12 : decode cX0_areUnlike 12 = .ok (.getfield 16, 3) := by decide +kernel
theorem dX0_areUnlike_15 : decode cX0_areUnlike 15 = .ok (.iload_n 2, 1) := by decide +kernel
theorem dX0_areUnlike_16 : decode cX0_areUnlike 16 = .ok (.iaload, 1) := by decide +kernel
theorem dX0_areUnlike_17 : decode cX0_areUnlike 17 = .ok (.ishl, 1) := by decide +kernel
theorem dX0_areUnlike_18 : decode cX0_areUnlike 18 = .ok (.ior, 1) := by decide +kernel
theorem dX0_areUnlike_19 : decode cX0_areUnlike 19 = .ok (.istore_n 1, 1) := by decide +kernel
theorem dX0_areUnlike_20 : decode cX0_areUnlike 20 = .ok (.iinc 2 1, 3) := by decide +kernel
theorem dX0_areUnlike_23 : decode cX0_areUnlike 23 = .ok (.goto (-19), 3) := by decide +kernel
theorem dX0_areUnlike_26 : decode cX0_areUnlike 26 = .ok (.iload_n 1, 1) := by decide +kernel
theorem dX0_areUnlike_27 : decode cX0_areUnlike 27 = .ok (.invokestatic 48, 3) := by decide +kernel
theorem dX0_areUnlike_30 : decode cX0_areUnlike 30 = .ok (.iconst 4, 1) := by decide +kernel
theorem dX0_areUnlike_31 : decode cX0_areUnlike 31 = .ok (.if_icmp .ne 7, 3) := by decide +kernel
theorem dX0_areUnlike_34 : decode cX0_areUnlike 34 = .ok (.iconst 1, 1) := by decide +kernel
theorem dX0_areUnlike_35 : decode cX0_areUnlike 35 = .ok (.goto 4, 3) := by decide +kernel
theorem dX0_areUnlike_38 : decode cX0_areUnlike 38 = .ok (.iconst 0, 1) := by decide +kernel
theorem dX0_areUnlike_39 : decode cX0_areUnlike 39 = .ok (.ireturn, 1) := by decide +kernel
theorem dX0_doAddUp_0 : decode cX0_doAddUp 0 = .ok (.iconst 0, 1) := by decide +kernel
theorem dX0_doAddUp_1 : decode cX0_doAddUp 1 = .ok (.istore_n 1, 1) := by decide +kernel
theorem dX0_doAddUp_2 : decode cX0_doAddUp 2 = .ok (.iload_n 1, 1) := by decide +kernel
theorem dX0_doAddUp_3 : decode cX0_doAddUp 3 = .ok (.aload_n 0, 1) := by decide +kernel
theorem dX0_doAddUp_4 : decode cX0_doAddUp 4 = .ok (.getfield 26, 3) := by decide +kernel
theorem dX0_doAddUp_7 : decode cX0_doAddUp 7 = .ok (.if_icmp .ge 51, 3) := by decide +kernel
theorem dX0_doAddUp_10 : decode cX0_doAddUp 10 = .ok (.iconst 0, 1) := by decide +kernel
theorem dX0_doAddUp_11 : decode cX0_doAddUp 11 = .ok (.istore_n 2, 1) := by decide +kernel
theorem dX0_doAddUp_12 : decode cX0_doAddUp 12 = .ok (.iconst 0, 1) := by decide +kernel
theorem dX0_doAddUp_13 : decode cX0_doAddUp 13 = .ok (.istore_n 3, 1) := by decide +kernel
theorem dX0_doAddUp_14 : decode cX0_doAddUp 14 = .ok (.iload_n 3, 1) := by decide +kernel
theorem dX0_doAddUp_15 : decode cX0_doAddUp 15 = .ok (.iconst 4, 1) := by decide +kernel
theorem dX0_doAddUp_16 : decode cX0_doAddUp 16 = .ok (.if_icmp .ge 30, 3) := by decide +kernel
theorem dX0_doAddUp_19 : decode cX0_doAddUp 19 = .ok (.iload_n 2, 1) := by decide +kernel
theorem dX0_doAddUp_20 : decode cX0_doAddUp 20 = .ok (.aload_n 0, 1) := by decide +kernel
theorem dX0_doAddUp_21 : decode cX0_doAddUp 21 = .ok (.getfield 13, 3) := by decide +kernel
theorem dX0_doAddUp_24 : decode cX0_doAddUp 24 = .ok (.iload_n 1, 1) := by decide +kernel
theorem dX0_doAddUp_25 : decode cX0_doAddUp 25 = .ok (.aaload, 1) := by decide +kernel
theorem dX0_doAddUp_26 : decode cX0_doAddUp 26 = .ok (.iload_n 3, 1) := by decide +kernel
theorem dX0_doAddUp_27 : decode cX0_doAddUp 27 = .ok (.iaload, 1) := by decide +kernel
theorem dX0_doAddUp_28 : decode cX0_doAddUp 28 = .ok (.aload_n 0, 1) := by decide +kernel
theorem dX0_doAddUp_29 : decode cX0_doAddUp 29 = .ok (.getfield 16, 3) := by decide +kernel
theorem dX0_doAddUp_32 : decode cX0_doAddUp 32 = .ok (.iload_n 3, 1) := by decide +kernel
theorem dX0_doAddUp_33 : decode cX0_doAddUp 33 = .ok (.iaload, 1) := by decide +kernel
theorem dX0_doAddUp_34 : decode cX0_doAddUp 34 = .ok (.invokestatic 44, 3) := by decide +kernel
theorem dX0_doAddUp_37 : decode cX0_doAddUp 37 = .ok (.imul, 1) := by decide +kernel
theorem dX0_doAddUp_38 : decode cX0_doAddUp 38 = .ok (.iadd, 1) := by decide +kernel
theorem dX0_doAddUp_39 : decode cX0_doAddUp 39 = .ok (.istore_n 2, 1) := by decide +kernel
theorem dX0_doAddUp_40 : decode cX0_doAddUp 40 = .ok (.iinc 3 1, 3) := by decide +kernel
theorem dX0_doAddUp_43 : decode cX0_doAddUp 43 = .ok (.goto (-29), 3) := by decide +kernel
theorem dX0_doAddUp_46 : decode cX0_doAddUp 46 = .ok (.iload_n 2, 1) := by decide +kernel
theorem dX0_doAddUp_47 : decode cX0_doAddUp 47 = .ok (.ifCond .eq 5, 3) := by decide +kernel
theorem dX0_doAddUp_50 : decode cX0_doAddUp 50 = .ok (.iconst 0, 1) := by decide +kernel
theorem dX0_doAddUp_51 : decode cX0_doAddUp 51 = .ok (.ireturn, 1) := by decide +kernel
theorem dX0_doAddUp_52 : decode cX0_doAddUp 52 = .ok (.iinc 1 1, 3) := by decide +kernel
theorem dX0_doAddUp_55 : decode cX0_doAddUp 55 = .ok (.goto (-53), 3) := by decide +kernel
theorem dX0_doAddUp_58 : decode cX0_doAddUp 58 = .ok (.iconst 1, 1) := by decide +kernel
theorem dX0_doAddUp_59 : decode cX0_doAddUp 59 = .ok (.ireturn, 1) := by decide +kernel
theorem dX0_keep_0 : decode cX0_keep 0 = .ok (.iconst 0, 1) := by decide +kernel
theorem dX0_keep_1 : decode cX0_keep 1 = .ok (.istore_n 1, 1) := by decide +kernel
theorem dX0_keep_2 : decode cX0_keep 2 = .ok (.iload_n 1, 1) := by decide +kernel
theorem dX0_keep_3 : decode cX0_keep 3 = .ok (.iconst 4, 1) := by decide +kernel
theorem dX0_keep_4 : decode cX0_keep 4 = .ok (.if_icmp .ge 45, 3) := by decide +kernel
theorem dX0_keep_7 : decode cX0_keep 7 = .ok (.aload_n 0, 1) := by decide +kernel
theorem dX0_keep_8 : decode cX0_keep 8 = .ok (.getfield 41, 3) := by decide +kernel
theorem dX0_keep_11 : decode cX0_keep 11 = .ok (.ifCond .ne 15, 3) := by decide +kernel
theorem dX0_keep_14 : decode cX0_keep 14 = .ok (.aload_n 0, 1) := by decide +kernel
theorem dX0_keep_15 : decode cX0_keep 15 = .ok (.getfield 20, 3) := by decide +kernel
theorem dX0_keep_18 : decode cX0_keep 18 = .ok (.iload_n 1, 1) := by decide +kernel
theorem dX0_keep_19 : decode cX0_keep 19 = .ok (.aload_n 0, 1) := by decide +kernel
theorem dX0_keep_20 : decode cX0_keep 20 = .ok (.getfield 16, 3) := by decide +kernel
theorem dX0_keep_23 : decode cX0_keep 23 = .ok (.iload_n 1, 1) := by decide +kernel
theorem dX0_keep_24 : decode cX0_keep 24 = .ok (.iaload, 1) := by decide +kernel
theorem dX0_keep_25 : decode cX0_keep 25 = .ok (.iastore, 1) := by decide +kernel
theorem dX0_keep_26 : decode cX0_keep 26 = .ok (.aload_n 0, 1) := by decide +kernel
theorem dX0_keep_27 : decode cX0_keep 27 = .ok (.getfield 23, 3) := by decide +kernel
theorem dX0_keep_30 : decode cX0_keep 30 = .ok (.iload_n 1, 1) := by decide +kernel
theorem dX0_keep_31 : decode cX0_keep 31 = .ok (.dup2, 1) := by decide +kernel
theorem dX0_keep_32 : decode cX0_keep 32 = .ok (.iaload, 1) := by decide +kernel
theorem dX0_keep_33 : decode cX0_keep 33 = .ok (.iconst 1, 1) := by decide +kernel
theorem dX0_keep_34 : decode cX0_keep 34 = .ok (.aload_n 0, 1) := by decide +kernel
theorem dX0_keep_35 : decode cX0_keep 35 = .ok (.getfield 16, 3) := by decide +kernel
theorem dX0_keep_38 : decode cX0_keep 38 = .ok (.iload_n 1, 1) := by decide +kernel
theorem dX0_keep_39 : decode cX0_keep 39 = .ok (.iaload, 1) := by decide +kernel
theorem dX0_keep_40 : decode cX0_keep 40 = .ok (.ishl, 1) := by decide +kernel
theorem dX0_keep_41 : decode cX0_keep 41 = .ok (.ior, 1) := by decide +kernel
theorem dX0_keep_42 : decode cX0_keep 42 = .ok (.iastore, 1) := by decide +kernel
theorem dX0_keep_43 : decode cX0_keep 43 = .ok (.iinc 1 1, 3) := by decide +kernel
theorem dX0_keep_46 : decode cX0_keep 46 = .ok (.goto (-44), 3) := by decide +kernel
theorem dX0_keep_49 : decode cX0_keep 49 = .ok (.aload_n 0, 1) := by decide +kernel
theorem dX0_keep_50 : decode cX0_keep 50 = .ok (.dup, 1) := by decide +kernel
theorem dX0_keep_51 : decode cX0_keep 51 = .ok (.getfield 41, 3) := by decide +kernel
theorem dX0_keep_54 : decode cX0_keep 54 = .ok (.iconst 1, 1) := by decide +kernel
theorem dX0_keep_55 : decode cX0_keep 55 = .ok (.iadd, 1) := by decide +kernel
theorem dX0_keep_56 : decode cX0_keep 56 = .ok (.putfield 41, 3) := by decide +kernel
theorem dX0_keep_59 : decode cX0_keep 59 = .ok (.return_, 1) := by decide +kernel
theorem dX1_init_0 : decode cX1_init 0 = .ok (.aload_n 0, 1) := by decide +kernel
theorem dX1_init_1 : decode cX1_init 1 = .ok (.invokespecial 3, 3) := by decide +kernel
theorem dX1_init_4 : decode cX1_init 4 = .ok (.aload_n 0, 1) := by decide +kernel
theorem dX1_init_5 : decode cX1_init 5 = .ok (.bipush 20, 2) := by decide +kernel
theorem dX1_init_7 : decode cX1_init 7 = .ok (.newarray .int, 2) := by decide +kernel
theorem dX1_init_9 : decode cX1_init 9 = .ok (.putfield 11, 3) := by decide +kernel
theorem dX1_init_12 : decode cX1_init 12 = .ok (.aload_n 0, 1) := by decide +kernel
theorem dX1_init_13 : decode cX1_init 13 = .ok (.bipush 20, 2) := by decide +kernel
theorem dX1_init_15 : decode cX1_init 15 = .ok (.newarray .int, 2) := by decide +kernel
theorem dX1_init_17 : decode cX1_init 17 = .ok (.putfield 15, 3) := by decide +kernel
theorem dX1_init_20 : decode cX1_init 20 = .ok (.aload_n 0, 1) := by decide +kernel
theorem dX1_init_21 : decode cX1_init 21 = .ok (.bipush 20, 2) := by decide +kernel
theorem dX1_init_23 : decode cX1_init 23 = .ok (.newarray .int, 2) := by decide +kernel
theorem dX1_init_25 : decode cX1_init 25 = .ok (.putfield 18, 3) := by decide +kernel
theorem dX1_init_28 : decode cX1_init 28 = .ok (.aload_n 0, 1) := by decide +kernel
theorem dX1_init_29 : decode cX1_init 29 = .ok (.bipush 20, 2) := by decide +kernel
theorem dX1_init_31 : decode cX1_init 31 = .ok (.newarray .int, 2) := by decide +kernel
theorem dX1_init_33 : decode cX1_init 33 = .ok (.putfield 21, 3) := by decide +kernel
theorem dX1_init_36 : decode cX1_init 36 = .ok (.aload_n 0, 1) := by decide +kernel
theorem dX1_init_37 : decode cX1_init 37 = .ok (.bipush 20, 2) := by decide +kernel
theorem dX1_init_39 : decode cX1_init 39 = .ok (.newarray .int, 2) := by decide +kernel
theorem dX1_init_41 : decode cX1_init 41 = .ok (.putfield 24, 3) := by decide +kernel
theorem dX1_init_44 : decode cX1_init 44 = .ok (.aload_n 0, 1) := by decide +kernel
theorem dX1_init_45 : decode cX1_init 45 = .ok (.bipush 20, 2) := by decide +kernel
theorem dX1_init_47 : decode cX1_init 47 = .ok (.newarray .int, 2) := by decide +kernel
theorem dX1_init_49 : decode cX1_init 49 = .ok (.putfield 27, 3) := by decide +kernel
theorem dX1_init_52 : decode cX1_init 52 = .ok (.aload_n 0, 1) := by decide +kernel
theorem dX1_init_53 : decode cX1_init 53 = .ok (.aload_n 1, 1) := by decide +kernel
theorem dX1_init_54 : decode cX1_init 54 = .ok (.putfield 30, 3) := by decide +kernel
theorem dX1_init_57 : decode cX1_init 57 = .ok (.return_, 1) := by decide +kernel
theorem dX1_size_0 : decode cX1_size 0 = .ok (.aload_n 0, 1) := by decide +kernel
theorem dX1_size_1 : decode cX1_size 1 = .ok (.getfield 34, 3) := by decide +kernel
theorem dX1_size_4 : decode cX1_size 4 = .ok (.ireturn, 1) := by decide +kernel
theorem dX1_latestFault_0 : decode cX1_latestFault 0 = .ok (.aload_n 0, 1) := by decide +kernel
theorem dX1_latestFault_1 : decode cX1_latestFault 1 = .ok (.getfield 38, 3) := by decide +kernel
theorem dX1_latestFault_4 : decode cX1_latestFault 4 = .ok (.ireturn, 1) := by decide +kernel
theorem dX1_today_0 : decode cX1_today 0 = .ok (.aload_n 0, 1) := by decide +kernel
theorem dX1_today_1 : decode cX1_today 1 = .ok (.getfield 41, 3) := by decide +kernel
theorem dX1_today_4 : decode cX1_today 4 = .ok (.ireturn, 1) := by decide +kernel
theorem dX1_withdrawn_0 : decode cX1_withdrawn 0 = .ok (.iconst 0, 1) := by decide +kernel
theorem dX1_withdrawn_1 : decode cX1_withdrawn 1 = .ok (.istore_n 1, 1) := by decide +kernel
theorem dX1_withdrawn_2 : decode cX1_withdrawn 2 = .ok (.iconst 0, 1) := by decide +kernel
theorem dX1_withdrawn_3 : decode cX1_withdrawn 3 = .ok (.istore_n 2, 1) := by decide +kernel
theorem dX1_withdrawn_4 : decode cX1_withdrawn 4 = .ok (.iload_n 2, 1) := by decide +kernel
theorem dX1_withdrawn_5 : decode cX1_withdrawn 5 = .ok (.aload_n 0, 1) := by decide +kernel
theorem dX1_withdrawn_6 : decode cX1_withdrawn 6 = .ok (.getfield 34, 3) := by decide +kernel
theorem dX1_withdrawn_9 : decode cX1_withdrawn 9 = .ok (.if_icmp .ge 23, 3) := by decide +kernel
theorem dX1_withdrawn_12 : decode cX1_withdrawn 12 = .ok (.aload_n 0, 1) := by decide +kernel
theorem dX1_withdrawn_13 : decode cX1_withdrawn 13 = .ok (.getfield 21, 3) := by decide +kernel
theorem dX1_withdrawn_16 : decode cX1_withdrawn 16 = .ok (.iload_n 2, 1) := by decide +kernel
theorem dX1_withdrawn_17 : decode cX1_withdrawn 17 = .ok (.iaload, 1) := by decide +kernel
theorem dX1_withdrawn_18 : decode cX1_withdrawn 18 = .ok (.bipush (-4), 2) := by decide +kernel
theorem dX1_withdrawn_20 : decode cX1_withdrawn 20 = .ok (.if_icmp .eq 6, 3) := by decide +kernel
theorem dX1_withdrawn_23 : decode cX1_withdrawn 23 = .ok (.iinc 1 1, 3) := by decide +kernel
theorem dX1_withdrawn_26 : decode cX1_withdrawn 26 = .ok (.iinc 2 1, 3) := by decide +kernel
theorem dX1_withdrawn_29 : decode cX1_withdrawn 29 = .ok (.goto (-25), 3) := by decide +kernel
theorem dX1_withdrawn_32 : decode cX1_withdrawn 32 = .ok (.iload_n 1, 1) := by decide +kernel
theorem dX1_withdrawn_33 : decode cX1_withdrawn 33 = .ok (.ireturn, 1) := by decide +kernel
theorem dX1_take_0 : decode cX1_take 0 = .ok (.aload_n 0, 1) := by decide +kernel
theorem dX1_take_1 : decode cX1_take 1 = .ok (.getfield 30, 3) := by decide +kernel
theorem dX1_take_4 : decode cX1_take 4 = .ok (.invokevirtual 44, 3) := by decide +kernel
theorem dX1_take_7 : decode cX1_take 7 = .ok (.aload_n 0, 1) := by decide +kernel
theorem dX1_take_8 : decode cX1_take 8 = .ok (.aload_n 0, 1) := by decide +kernel
theorem dX1_take_9 : decode cX1_take 9 = .ok (.getfield 34, 3) := by decide +kernel
theorem dX1_take_12 : decode cX1_take 12 = .ok (.putfield 49, 3) := by decide +kernel
theorem dX1_take_15 : decode cX1_take 15 = .ok (.aload_n 0, 1) := by decide +kernel
theorem dX1_take_16 : decode cX1_take 16 = .ok (.iconst 0, 1) := by decide +kernel
theorem dX1_take_17 : decode cX1_take 17 = .ok (.putfield 52, 3) := by decide +kernel
theorem dX1_take_20 : decode cX1_take 20 = .ok (.aload_n 0, 1) := by decide +kernel
theorem dX1_take_21 : decode cX1_take 21 = .ok (.iconst 0, 1) := by decide +kernel
theorem dX1_take_22 : decode cX1_take 22 = .ok (.putfield 38, 3) := by decide +kernel
theorem dX1_take_25 : decode cX1_take 25 = .ok (.iconst 0, 1) := by decide +kernel
theorem dX1_take_26 : decode cX1_take 26 = .ok (.istore_n 1, 1) := by decide +kernel
theorem dX1_take_27 : decode cX1_take 27 = .ok (.iload_n 1, 1) := by decide +kernel
theorem dX1_take_28 : decode cX1_take 28 = .ok (.sipush 160, 3) := by decide +kernel
theorem dX1_take_31 : decode cX1_take 31 = .ok (.if_icmp .gt 58, 3) := by decide +kernel
theorem dX1_take_34 : decode cX1_take 34 = .ok (.aload_n 0, 1) := by decide +kernel
theorem dX1_take_35 : decode cX1_take 35 = .ok (.getfield 30, 3) := by decide +kernel
theorem dX1_take_38 : decode cX1_take 38 = .ok (.invokevirtual 55, 3) := by decide +kernel
theorem dX1_take_41 : decode cX1_take 41 = .ok (.istore_n 2, 1) := by decide +kernel
theorem dX1_take_42 : decode cX1_take 42 = .ok (.iload_n 2, 1) := by decide +kernel
theorem dX1_take_43 : decode cX1_take 43 = .ok (.iconst 1, 1) := by decide +kernel
theorem dX1_take_44 : decode cX1_take 44 = .ok (.if_icmp .ne 13, 3) := by decide +kernel
theorem dX1_take_47 : decode cX1_take 47 = .ok (.aload_n 0, 1) := by decide +kernel
theorem dX1_take_48 : decode cX1_take 48 = .ok (.getfield 52, 3) := by decide +kernel
theorem dX1_take_51 : decode cX1_take 51 = .ok (.ifCond .ne 6, 3) := by decide +kernel
theorem dX1_take_54 : decode cX1_take 54 = .ok (.goto 35, 3) := by decide +kernel
theorem dX1_take_57 : decode cX1_take 57 = .ok (.aload_n 0, 1) := by decide +kernel
theorem dX1_take_58 : decode cX1_take 58 = .ok (.aload_n 0, 1) := by decide +kernel
theorem dX1_take_59 : decode cX1_take 59 = .ok (.iload_n 2, 1) := by decide +kernel
theorem dX1_take_60 : decode cX1_take 60 = .ok (.aload_n 0, 1) := by decide +kernel
theorem dX1_take_61 : decode cX1_take 61 = .ok (.getfield 30, 3) := by decide +kernel
theorem dX1_take_64 : decode cX1_take 64 = .ok (.invokevirtual 59, 3) := by decide +kernel
theorem dX1_take_67 : decode cX1_take 67 = .ok (.invokevirtual 62, 3) := by decide +kernel
theorem dX1_take_70 : decode cX1_take 70 = .ok (.putfield 38, 3) := by decide +kernel
theorem dX1_take_73 : decode cX1_take 73 = .ok (.aload_n 0, 1) := by decide +kernel
theorem dX1_take_74 : decode cX1_take 74 = .ok (.getfield 38, 3) := by decide +kernel
theorem dX1_take_77 : decode cX1_take 77 = .ok (.ifCond .eq 6, 3) := by decide +kernel
theorem dX1_take_80 : decode cX1_take 80 = .ok (.goto 9, 3) := by decide +kernel
theorem dX1_take_83 : decode cX1_take 83 = .ok (.iinc 1 1, 3) := by decide +kernel
theorem dX1_take_86 : decode cX1_take 86 = .ok (.goto (-59), 3) := by decide +kernel
theorem dX1_take_89 : decode cX1_take 89 = .ok (.aload_n 0, 1) := by decide +kernel
theorem dX1_take_90 : decode cX1_take 90 = .ok (.getfield 30, 3) := by decide +kernel
theorem dX1_take_93 : decode cX1_take 93 = .ok (.iconst 0, 1) := by decide +kernel
theorem dX1_take_94 : decode cX1_take 94 = .ok (.invokevirtual 66, 3) := by decide +kernel
theorem dX1_take_97 : decode cX1_take 97 = .ok (.pop, 1) := by decide +kernel
theorem dX1_take_98 : decode cX1_take 98 = .ok (.aload_n 0, 1) := by decide +kernel
theorem dX1_take_99 : decode cX1_take 99 = .ok (.getfield 38, 3) := by decide +kernel
theorem dX1_take_102 : decode cX1_take 102 = .ok (.ifCond .eq 14, 3) := by decide +kernel
theorem dX1_take_105 : decode cX1_take 105 = .ok (.bipush (-10), 2) := by decide +kernel
theorem dX1_take_107 : decode cX1_take 107 = .ok (.aload_n 0, 1) := by decide +kernel
theorem dX1_take_108 : decode cX1_take 108 = .ok (.getfield 30, 3) := by decide +kernel
theorem dX1_take_111 : decode cX1_take 111 = .ok (.invokevirtual 70, 3) := by decide +kernel
theorem dX1_take_114 : decode cX1_take 114 = .ok (.isub, 1) := by decide +kernel
theorem dX1_take_115 : decode cX1_take 115 = .ok (.ireturn, 1) := by decide +kernel
theorem dX1_take_116 : decode cX1_take 116 = .ok (.aload_n 0, 1) := by decide +kernel
theorem dX1_take_117 : decode cX1_take 117 = .ok (.getfield 49, 3) := by decide +kernel
theorem dX1_take_120 : decode cX1_take 120 = .ok (.aload_n 0, 1) := by decide +kernel
theorem dX1_take_121 : decode cX1_take 121 = .ok (.getfield 34, 3) := by decide +kernel
theorem dX1_take_124 : decode cX1_take 124 = .ok (.isub, 1) := by decide +kernel
theorem dX1_take_125 : decode cX1_take 125 = .ok (.istore_n 1, 1) := by decide +kernel
theorem dX1_take_126 : decode cX1_take 126 = .ok (.aload_n 0, 1) := by decide +kernel
theorem dX1_take_127 : decode cX1_take 127 = .ok (.aload_n 0, 1) := by decide +kernel
theorem dX1_take_128 : decode cX1_take 128 = .ok (.getfield 49, 3) := by decide +kernel
theorem dX1_take_131 : decode cX1_take 131 = .ok (.putfield 34, 3) := by decide +kernel
theorem dX1_take_134 : decode cX1_take 134 = .ok (.iload_n 1, 1) := by decide +kernel
theorem dX1_take_135 : decode cX1_take 135 = .ok (.ireturn, 1) := by decide +kernel
theorem dX1_follow_0 : decode cX1_follow 0 = .ok (.iload_n 1, 1) := by decide +kernel
theorem dX1_follow_1 : decode cX1_follow 1 = .ok (.ifCond .ne 5, 3) := by decide +kernel
theorem dX1_follow_4 : decode cX1_follow 4 = .ok (.iconst 1, 1) := by decide +kernel
theorem dX1_follow_5 : decode cX1_follow 5 = .ok (.ireturn, 1) := by decide +kernel
theorem dX1_follow_6 : decode cX1_follow 6 = .ok (.aload_n 0, 1) := by decide +kernel
theorem dX1_follow_7 : decode cX1_follow 7 = .ok (.getfield 52, 3) := by decide +kernel
theorem dX1_follow_10 : decode cX1_follow 10 = .ok (.tableswitch 75 0 3 #[30, 45, 75, 60], 30) := by decide +kernel
theorem dX1_follow_40 : decode cX1_follow 40 = .ok (.iload_n 1, 1) := by decide +kernel
theorem dX1_follow_41 : decode cX1_follow 41 = .ok (.iconst 2, 1) := by decide +kernel
theorem dX1_follow_42 : decode cX1_follow 42 = .ok (.if_icmp .ne 11, 3) := by decide +kernel
theorem dX1_follow_45 : decode cX1_follow 45 = .ok (.aload_n 0, 1) := by decide +kernel
theorem dX1_follow_46 : decode cX1_follow 46 = .ok (.iload_n 2, 1) := by decide +kernel
theorem dX1_follow_47 : decode cX1_follow 47 = .ok (.invokevirtual 73, 3) := by decide +kernel
theorem dX1_follow_50 : decode cX1_follow 50 = .ok (.goto 4, 3) := by decide +kernel
theorem dX1_follow_53 : decode cX1_follow 53 = .ok (.iconst 2, 1) := by decide +kernel
theorem dX1_follow_54 : decode cX1_follow 54 = .ok (.ireturn, 1) := by decide +kernel
theorem dX1_follow_55 : decode cX1_follow 55 = .ok (.iload_n 1, 1) := by decide +kernel
theorem dX1_follow_56 : decode cX1_follow 56 = .ok (.iconst 4, 1) := by decide +kernel
theorem dX1_follow_57 : decode cX1_follow 57 = .ok (.if_icmp .ne 11, 3) := by decide +kernel
theorem dX1_follow_60 : decode cX1_follow 60 = .ok (.aload_n 0, 1) := by decide +kernel
theorem dX1_follow_61 : decode cX1_follow 61 = .ok (.iload_n 2, 1) := by decide +kernel
theorem dX1_follow_62 : decode cX1_follow 62 = .ok (.invokevirtual 76, 3) := by decide +kernel
theorem dX1_follow_65 : decode cX1_follow 65 = .ok (.goto 4, 3) := by decide +kernel
theorem dX1_follow_68 : decode cX1_follow 68 = .ok (.iconst 2, 1) := by decide +kernel
theorem dX1_follow_69 : decode cX1_follow 69 = .ok (.ireturn, 1) := by decide +kernel
theorem dX1_follow_70 : decode cX1_follow 70 = .ok (.iload_n 1, 1) := by decide +kernel
theorem dX1_follow_71 : decode cX1_follow 71 = .ok (.iconst 4, 1) := by decide +kernel
theorem dX1_follow_72 : decode cX1_follow 72 = .ok (.if_icmp .ne 11, 3) := by decide +kernel
theorem dX1_follow_75 : decode cX1_follow 75 = .ok (.aload_n 0, 1) := by decide +kernel
theorem dX1_follow_76 : decode cX1_follow 76 = .ok (.iload_n 2, 1) := by decide +kernel
theorem dX1_follow_77 : decode cX1_follow 77 = .ok (.invokevirtual 79, 3) := by decide +kernel
theorem dX1_follow_80 : decode cX1_follow 80 = .ok (.goto 4, 3) := by decide +kernel
theorem dX1_follow_83 : decode cX1_follow 83 = .ok (.iconst 2, 1) := by decide +kernel
theorem dX1_follow_84 : decode cX1_follow 84 = .ok (.ireturn, 1) := by decide +kernel
theorem dX1_follow_85 : decode cX1_follow 85 = .ok (.aload_n 0, 1) := by decide +kernel
theorem dX1_follow_86 : decode cX1_follow 86 = .ok (.iload_n 1, 1) := by decide +kernel
theorem dX1_follow_87 : decode cX1_follow 87 = .ok (.invokevirtual 82, 3) := by decide +kernel
theorem dX1_follow_90 : decode cX1_follow 90 = .ok (.ireturn, 1) := by decide +kernel
theorem dX1_goOnOrStop_0 : decode cX1_goOnOrStop 0 = .ok (.iload_n 1, 1) := by decide +kernel
theorem dX1_goOnOrStop_1 : decode cX1_goOnOrStop 1 = .ok (.aload_n 0, 1) := by decide +kernel
theorem dX1_goOnOrStop_2 : decode cX1_goOnOrStop 2 = .ok (.getfield 52, 3) := by decide +kernel
theorem dX1_goOnOrStop_5 : decode cX1_goOnOrStop 5 = .ok (.iconst 2, 1) := by decide +kernel
theorem dX1_goOnOrStop_6 : decode cX1_goOnOrStop 6 = .ok (.if_icmp .ne 7, 3) := by decide +kernel
theorem dX1_goOnOrStop_9 : decode cX1_goOnOrStop 9 = .ok (.iconst 3, 1) := by decide +kernel
theorem dX1_goOnOrStop_10 : decode cX1_goOnOrStop 10 = .ok (.goto 4, 3) := by decide +kernel
theorem dX1_goOnOrStop_13 : decode cX1_goOnOrStop 13 = .ok (.iconst 5, 1) := by decide +kernel
theorem dX1_goOnOrStop_14 : decode cX1_goOnOrStop 14 = .ok (.if_icmp .ne 10, 3) := by decide +kernel
theorem dX1_goOnOrStop_17 : decode cX1_goOnOrStop 17 = .ok (.aload_n 0, 1) := by decide +kernel
theorem dX1_goOnOrStop_18 : decode cX1_goOnOrStop 18 = .ok (.iconst 3, 1) := by decide +kernel
theorem dX1_goOnOrStop_19 : decode cX1_goOnOrStop 19 = .ok (.putfield 52, 3) := by decide +kernel
theorem dX1_goOnOrStop_22 : decode cX1_goOnOrStop 22 = .ok (.iconst 0, 1) := by decide +kernel
theorem dX1_goOnOrStop_23 : decode cX1_goOnOrStop 23 = .ok (.ireturn, 1) := by decide +kernel
theorem dX1_goOnOrStop_24 : decode cX1_goOnOrStop 24 = .ok (.iload_n 1, 1) := by decide +kernel
theorem dX1_goOnOrStop_25 : decode cX1_goOnOrStop 25 = .ok (.bipush 6, 2) := by decide +kernel
theorem dX1_goOnOrStop_27 : decode cX1_goOnOrStop 27 = .ok (.if_icmp .eq 5, 3) := by decide +kernel
theorem dX1_goOnOrStop_30 : decode cX1_goOnOrStop 30 = .ok (.iconst 2, 1) := by decide +kernel
theorem dX1_goOnOrStop_31 : decode cX1_goOnOrStop 31 = .ok (.ireturn, 1) := by decide +kernel
theorem dX1_goOnOrStop_32 : decode cX1_goOnOrStop 32 = .ok (.aload_n 0, 1) := by decide +kernel
theorem dX1_goOnOrStop_33 : decode cX1_goOnOrStop 33 = .ok (.dup, 1) := by decide +kernel
theorem dX1_goOnOrStop_34 : decode cX1_goOnOrStop 34 = .ok (.getfield 49, 3) := by decide +kernel
theorem dX1_goOnOrStop_37 : decode cX1_goOnOrStop 37 = .ok (.iconst 1, 1) := by decide +kernel
theorem dX1_goOnOrStop_38 : decode cX1_goOnOrStop 38 = .ok (.iadd, 1) := by decide +kernel
theorem dX1_goOnOrStop_39 : decode cX1_goOnOrStop 39 = .ok (.putfield 49, 3) := by decide +kernel
theorem dX1_goOnOrStop_42 : decode cX1_goOnOrStop 42 = .ok (.aload_n 0, 1) := by decide +kernel
theorem dX1_goOnOrStop_43 : decode cX1_goOnOrStop 43 = .ok (.iconst 0, 1) := by decide +kernel
theorem dX1_goOnOrStop_44 : decode cX1_goOnOrStop 44 = .ok (.putfield 52, 3) := by decide +kernel
theorem dX1_goOnOrStop_47 : decode cX1_goOnOrStop 47 = .ok (.iconst 0, 1) := by decide +kernel
theorem dX1_goOnOrStop_48 : decode cX1_goOnOrStop 48 = .ok (.ireturn, 1) := by decide +kernel
theorem dX1_open_0 : decode cX1_open 0 = .ok (.aload_n 0, 1) := by decide +kernel
theorem dX1_open_1 : decode cX1_open 1 = .ok (.getfield 49, 3) := by decide +kernel
theorem dX1_open_4 : decode cX1_open 4 = .ok (.bipush 20, 2) := by decide +kernel
theorem dX1_open_6 : decode cX1_open 6 = .ok (.if_icmp .lt 5, 3) := by decide +kernel
theorem dX1_open_9 : decode cX1_open 9 = .ok (.iconst 5, 1) := by decide +kernel
theorem dX1_open_10 : decode cX1_open 10 = .ok (.ireturn, 1) := by decide +kernel
theorem dX1_open_11 : decode cX1_open 11 = .ok (.aload_n 0, 1) := by decide +kernel
theorem dX1_open_12 : decode cX1_open 12 = .ok (.getfield 11, 3) := by decide +kernel
theorem dX1_open_15 : decode cX1_open 15 = .ok (.aload_n 0, 1) := by decide +kernel
theorem dX1_open_16 : decode cX1_open 16 = .ok (.getfield 49, 3) := by decide +kernel
theorem dX1_open_19 : decode cX1_open 19 = .ok (.iload_n 1, 1) := by decide +kernel
theorem dX1_open_20 : decode cX1_open 20 = .ok (.iastore, 1) := by decide +kernel
theorem dX1_open_21 : decode cX1_open 21 = .ok (.aload_n 0, 1) := by decide +kernel
theorem dX1_open_22 : decode cX1_open 22 = .ok (.getfield 18, 3) := by decide +kernel
theorem dX1_open_25 : decode cX1_open 25 = .ok (.aload_n 0, 1) := by decide +kernel
theorem dX1_open_26 : decode cX1_open 26 = .ok (.getfield 49, 3) := by decide +kernel
theorem dX1_open_29 : decode cX1_open 29 = .ok (.aload_n 0, 1) := by decide +kernel
theorem dX1_open_30 : decode cX1_open 30 = .ok (.getfield 41, 3) := by decide +kernel
theorem dX1_open_33 : decode cX1_open 33 = .ok (.iastore, 1) := by decide +kernel
theorem dX1_open_34 : decode cX1_open 34 = .ok (.aload_n 0, 1) := by decide +kernel
theorem dX1_open_35 : decode cX1_open 35 = .ok (.getfield 21, 3) := by decide +kernel
theorem dX1_open_38 : decode cX1_open 38 = .ok (.aload_n 0, 1) := by decide +kernel
theorem dX1_open_39 : decode cX1_open 39 = .ok (.getfield 49, 3) := by decide +kernel
theorem dX1_open_42 : decode cX1_open 42 = .ok (.bipush (-4), 2) := by decide +kernel
theorem dX1_open_44 : decode cX1_open 44 = .ok (.iastore, 1) := by decide +kernel
theorem dX1_open_45 : decode cX1_open 45 = .ok (.aload_n 0, 1) := by decide +kernel
theorem dX1_open_46 : decode cX1_open 46 = .ok (.getfield 24, 3) := by decide +kernel
theorem dX1_open_49 : decode cX1_open 49 = .ok (.aload_n 0, 1) := by decide +kernel
theorem dX1_open_50 : decode cX1_open 50 = .ok (.getfield 49, 3) := by decide +kernel
theorem dX1_open_53 : decode cX1_open 53 = .ok (.iconst 0, 1) := by decide +kernel
theorem dX1_open_54 : decode cX1_open 54 = .ok (.iastore, 1) := by decide +kernel
theorem dX1_open_55 : decode cX1_open 55 = .ok (.aload_n 0, 1) := by decide +kernel
theorem dX1_open_56 : decode cX1_open 56 = .ok (.getfield 27, 3) := by decide +kernel
theorem dX1_open_59 : decode cX1_open 59 = .ok (.aload_n 0, 1) := by decide +kernel
theorem dX1_open_60 : decode cX1_open 60 = .ok (.getfield 49, 3) := by decide +kernel
theorem dX1_open_63 : decode cX1_open 63 = .ok (.iconst 0, 1) := by decide +kernel
theorem dX1_open_64 : decode cX1_open 64 = .ok (.iastore, 1) := by decide +kernel
theorem dX1_open_65 : decode cX1_open 65 = .ok (.aload_n 0, 1) := by decide +kernel
theorem dX1_open_66 : decode cX1_open 66 = .ok (.iconst 1, 1) := by decide +kernel
theorem dX1_open_67 : decode cX1_open 67 = .ok (.putfield 52, 3) := by decide +kernel
theorem dX1_open_70 : decode cX1_open 70 = .ok (.iconst 0, 1) := by decide +kernel
theorem dX1_open_71 : decode cX1_open 71 = .ok (.ireturn, 1) := by decide +kernel
theorem dX1_tellAbout_0 : decode cX1_tellAbout 0 = .ok (.iconst 0, 1) := by decide +kernel
theorem dX1_tellAbout_1 : decode cX1_tellAbout 1 = .ok (.istore_n 2, 1) := by decide +kernel
theorem dX1_tellAbout_2 : decode cX1_tellAbout 2 = .ok (.iload_n 2, 1) := by decide +kernel
theorem dX1_tellAbout_3 : decode cX1_tellAbout 3 = .ok (.aload_n 0, 1) := by decide +kernel
theorem dX1_tellAbout_4 : decode cX1_tellAbout 4 = .ok (.getfield 49, 3) := by decide +kernel
theorem dX1_tellAbout_7 : decode cX1_tellAbout 7 = .ok (.if_icmp .ge 50, 3) := by decide +kernel
theorem dX1_tellAbout_10 : decode cX1_tellAbout 10 = .ok (.aload_n 0, 1) := by decide +kernel
theorem dX1_tellAbout_11 : decode cX1_tellAbout 11 = .ok (.getfield 21, 3) := by decide +kernel
theorem dX1_tellAbout_14 : decode cX1_tellAbout 14 = .ok (.iload_n 2, 1) := by decide +kernel
theorem dX1_tellAbout_15 : decode cX1_tellAbout 15 = .ok (.iaload, 1) := by decide +kernel
theorem dX1_tellAbout_16 : decode cX1_tellAbout 16 = .ok (.bipush (-4), 2) := by decide +kernel
theorem dX1_tellAbout_18 : decode cX1_tellAbout 18 = .ok (.if_icmp .ne 33, 3) := by decide +kernel
theorem dX1_tellAbout_21 : decode cX1_tellAbout 21 = .ok (.aload_n 0, 1) := by decide +kernel
theorem dX1_tellAbout_22 : decode cX1_tellAbout 22 = .ok (.getfield 11, 3) := by decide +kernel
theorem dX1_tellAbout_25 : decode cX1_tellAbout 25 = .ok (.iload_n 2, 1) := by decide +kernel
theorem dX1_tellAbout_26 : decode cX1_tellAbout 26 = .ok (.iaload, 1) := by decide +kernel
theorem dX1_tellAbout_27 : decode cX1_tellAbout 27 = .ok (.aload_n 0, 1) := by decide +kernel
theorem dX1_tellAbout_28 : decode cX1_tellAbout 28 = .ok (.getfield 11, 3) := by decide +kernel
theorem dX1_tellAbout_31 : decode cX1_tellAbout 31 = .ok (.aload_n 0, 1) := by decide +kernel
theorem dX1_tellAbout_32 : decode cX1_tellAbout 32 = .ok (.getfield 49, 3) := by decide +kernel
theorem dX1_tellAbout_35 : decode cX1_tellAbout 35 = .ok (.iaload, 1) := by decide +kernel
theorem dX1_tellAbout_36 : decode cX1_tellAbout 36 = .ok (.if_icmp .ne 15, 3) := by decide +kernel
theorem dX1_tellAbout_39 : decode cX1_tellAbout 39 = .ok (.aload_n 0, 1) := by decide +kernel
theorem dX1_tellAbout_40 : decode cX1_tellAbout 40 = .ok (.getfield 15, 3) := by decide +kernel
theorem dX1_tellAbout_43 : decode cX1_tellAbout 43 = .ok (.iload_n 2, 1) := by decide +kernel
theorem dX1_tellAbout_44 : decode cX1_tellAbout 44 = .ok (.iaload, 1) := by decide +kernel
theorem dX1_tellAbout_45 : decode cX1_tellAbout 45 = .ok (.iload_n 1, 1) := by decide +kernel
theorem dX1_tellAbout_46 : decode cX1_tellAbout 46 = .ok (.if_icmp .ne 5, 3) := by decide +kernel
theorem dX1_tellAbout_49 : decode cX1_tellAbout 49 = .ok (.iconst 4, 1) := by decide +kernel
theorem dX1_tellAbout_50 : decode cX1_tellAbout 50 = .ok (.ireturn, 1) := by decide +kernel
theorem dX1_tellAbout_51 : decode cX1_tellAbout 51 = .ok (.iinc 2 1, 3) := by decide +kernel
theorem dX1_tellAbout_54 : decode cX1_tellAbout 54 = .ok (.goto (-52), 3) := by decide +kernel
theorem dX1_tellAbout_57 : decode cX1_tellAbout 57 = .ok (.aload_n 0, 1) := by decide +kernel
theorem dX1_tellAbout_58 : decode cX1_tellAbout 58 = .ok (.getfield 15, 3) := by decide +kernel
theorem dX1_tellAbout_61 : decode cX1_tellAbout 61 = .ok (.aload_n 0, 1) := by decide +kernel
theorem dX1_tellAbout_62 : decode cX1_tellAbout 62 = .ok (.getfield 49, 3) := by decide +kernel
theorem dX1_tellAbout_65 : decode cX1_tellAbout 65 = .ok (.iload_n 1, 1) := by decide +kernel
theorem dX1_tellAbout_66 : decode cX1_tellAbout 66 = .ok (.iastore, 1) := by decide +kernel
theorem dX1_tellAbout_67 : decode cX1_tellAbout 67 = .ok (.aload_n 0, 1) := by decide +kernel
theorem dX1_tellAbout_68 : decode cX1_tellAbout 68 = .ok (.iconst 2, 1) := by decide +kernel
theorem dX1_tellAbout_69 : decode cX1_tellAbout 69 = .ok (.putfield 52, 3) := by decide +kernel
theorem dX1_tellAbout_72 : decode cX1_tellAbout 72 = .ok (.iconst 0, 1) := by decide +kernel
theorem dX1_tellAbout_73 : decode cX1_tellAbout 73 = .ok (.ireturn, 1) := by decide +kernel
theorem dX1_hang_0 : decode cX1_hang 0 = .ok (.iload_n 1, 1) := by decide +kernel
theorem dX1_hang_1 : decode cX1_hang 1 = .ok (.ifCond .lt 34, 3) := by decide +kernel
theorem dX1_hang_4 : decode cX1_hang 4 = .ok (.iload_n 1, 1) := by decide +kernel
theorem dX1_hang_5 : decode cX1_hang 5 = .ok (.aload_n 0, 1) := by decide +kernel
theorem dX1_hang_6 : decode cX1_hang 6 = .ok (.getfield 49, 3) := by decide +kernel
theorem dX1_hang_9 : decode cX1_hang 9 = .ok (.if_icmp .ge 26, 3) := by decide +kernel
theorem dX1_hang_12 : decode cX1_hang 12 = .ok (.aload_n 0, 1) := by decide +kernel
theorem dX1_hang_13 : decode cX1_hang 13 = .ok (.getfield 21, 3) := by decide +kernel
theorem dX1_hang_16 : decode cX1_hang 16 = .ok (.iload_n 1, 1) := by decide +kernel
theorem dX1_hang_17 : decode cX1_hang 17 = .ok (.iaload, 1) := by decide +kernel
theorem dX1_hang_18 : decode cX1_hang 18 = .ok (.bipush (-4), 2) := by decide +kernel
theorem dX1_hang_20 : decode cX1_hang 20 = .ok (.if_icmp .ne 15, 3) := by decide +kernel
theorem dX1_hang_23 : decode cX1_hang 23 = .ok (.aload_n 0, 1) := by decide +kernel
theorem dX1_hang_24 : decode cX1_hang 24 = .ok (.aload_n 0, 1) := by decide +kernel
theorem dX1_hang_25 : decode cX1_hang 25 = .ok (.getfield 49, 3) := by decide +kernel
theorem dX1_hang_28 : decode cX1_hang 28 = .ok (.iload_n 1, 1) := by decide +kernel
theorem dX1_hang_29 : decode cX1_hang 29 = .ok (.invokevirtual 85, 3) := by decide +kernel
theorem dX1_hang_32 : decode cX1_hang 32 = .ok (.ifCond .eq 5, 3) := by decide +kernel
theorem dX1_hang_35 : decode cX1_hang 35 = .ok (.iconst 3, 1) := by decide +kernel
theorem dX1_hang_36 : decode cX1_hang 36 = .ok (.ireturn, 1) := by decide +kernel
theorem dX1_hang_37 : decode cX1_hang 37 = .ok (.aload_n 0, 1) := by decide +kernel
theorem dX1_hang_38 : decode cX1_hang 38 = .ok (.getfield 24, 3) := by decide +kernel
theorem dX1_hang_41 : decode cX1_hang 41 = .ok (.aload_n 0, 1) := by decide +kernel
theorem dX1_hang_42 : decode cX1_hang 42 = .ok (.getfield 49, 3) := by decide +kernel
theorem dX1_hang_45 : decode cX1_hang 45 = .ok (.dup2, 1) := by decide +kernel
theorem dX1_hang_46 : decode cX1_hang 46 = .ok (.iaload, 1) := by decide +kernel
theorem dX1_hang_47 : decode cX1_hang 47 = .ok (.iconst 1, 1) := by decide +kernel
theorem dX1_hang_48 : decode cX1_hang 48 = .ok (.iload_n 1, 1) := by decide +kernel
theorem dX1_hang_49 : decode cX1_hang 49 = .ok (.ishl, 1) := by decide +kernel
theorem dX1_hang_50 : decode cX1_hang 50 = .ok (.ior, 1) := by decide +kernel
theorem dX1_hang_51 : decode cX1_hang 51 = .ok (.iastore, 1) := by decide +kernel
theorem dX1_hang_52 : decode cX1_hang 52 = .ok (.aload_n 0, 1) := by decide +kernel
theorem dX1_hang_53 : decode cX1_hang 53 = .ok (.getfield 27, 3) := by decide +kernel
theorem dX1_hang_56 : decode cX1_hang 56 = .ok (.aload_n 0, 1) := by decide +kernel
theorem dX1_hang_57 : decode cX1_hang 57 = .ok (.getfield 49, 3) := by decide +kernel
theorem dX1_hang_60 : decode cX1_hang 60 = .ok (.aload_n 0, 1) := by decide +kernel
theorem dX1_hang_61 : decode cX1_hang 61 = .ok (.getfield 27, 3) := by decide +kernel
theorem dX1_hang_64 : decode cX1_hang 64 = .ok (.aload_n 0, 1) := by decide +kernel
theorem dX1_hang_65 : decode cX1_hang 65 = .ok (.getfield 49, 3) := by decide +kernel
theorem dX1_hang_68 : decode cX1_hang 68 = .ok (.iaload, 1) := by decide +kernel
theorem dX1_hang_69 : decode cX1_hang 69 = .ok (.aload_n 0, 1) := by decide +kernel
theorem dX1_hang_70 : decode cX1_hang 70 = .ok (.getfield 27, 3) := by decide +kernel
theorem dX1_hang_73 : decode cX1_hang 73 = .ok (.iload_n 1, 1) := by decide +kernel
theorem dX1_hang_74 : decode cX1_hang 74 = .ok (.iaload, 1) := by decide +kernel
theorem dX1_hang_75 : decode cX1_hang 75 = .ok (.iconst 1, 1) := by decide +kernel
theorem dX1_hang_76 : decode cX1_hang 76 = .ok (.iadd, 1) := by decide +kernel
theorem dX1_hang_77 : decode cX1_hang 77 = .ok (.invokestatic 89, 3) := by decide +kernel
theorem dX1_hang_80 : decode cX1_hang 80 = .ok (.iastore, 1) := by decide +kernel
theorem dX1_hang_81 : decode cX1_hang 81 = .ok (.aload_n 0, 1) := by decide +kernel
theorem dX1_hang_82 : decode cX1_hang 82 = .ok (.iconst 4, 1) := by decide +kernel
theorem dX1_hang_83 : decode cX1_hang 83 = .ok (.putfield 52, 3) := by decide +kernel
theorem dX1_hang_86 : decode cX1_hang 86 = .ok (.iconst 0, 1) := by decide +kernel
theorem dX1_hang_87 : decode cX1_hang 87 = .ok (.ireturn, 1) := by decide +kernel
theorem dX1_hangs_0 : decode cX1_hangs 0 = .ok (.aload_n 0, 1) := by decide +kernel
theorem dX1_hangs_1 : decode cX1_hangs 1 = .ok (.getfield 24, 3) := by decide +kernel
theorem dX1_hangs_4 : decode cX1_hangs 4 = .ok (.iload_n 1, 1) := by decide +kernel
theorem dX1_hangs_5 : decode cX1_hangs 5 = .ok (.iaload, 1) := by decide +kernel
theorem dX1_hangs_6 : decode cX1_hangs 6 = .ok (.iload_n 2, 1) := by decide +kernel
theorem dX1_hangs_7 : decode cX1_hangs 7 = .ok (.ishr, 1) := by decide +kernel
theorem dX1_hangs_8 : decode cX1_hangs 8 = .ok (.iconst 1, 1) := by decide +kernel
theorem dX1_hangs_9 : decode cX1_hangs 9 = .ok (.iand, 1) := by decide +kernel
theorem dX1_hangs_10 : decode cX1_hangs 10 = .ok (.iconst 1, 1) := by decide +kernel
theorem dX1_hangs_11 : decode cX1_hangs 11 = .ok (.if_icmp .ne 7, 3) := by decide +kernel
theorem dX1_hangs_14 : decode cX1_hangs 14 = .ok (.iconst 1, 1) := by decide +kernel
theorem dX1_hangs_15 : decode cX1_hangs 15 = .ok (.goto 4, 3) := by decide +kernel
theorem dX1_hangs_18 : decode cX1_hangs 18 = .ok (.iconst 0, 1) := by decide +kernel
theorem dX1_hangs_19 : decode cX1_hangs 19 = .ok (.ireturn, 1) := by decide +kernel
theorem dX1_isClaim_0 : decode cX1_isClaim 0 = .ok (.iload_n 1, 1) := by decide +kernel
theorem dX1_isClaim_1 : decode cX1_isClaim 1 = .ok (.ifCond .lt 15, 3) := by decide +kernel
theorem dX1_isClaim_4 : decode cX1_isClaim 4 = .ok (.iload_n 1, 1) := by decide +kernel
theorem dX1_isClaim_5 : decode cX1_isClaim 5 = .ok (.aload_n 0, 1) := by decide +kernel
theorem dX1_isClaim_6 : decode cX1_isClaim 6 = .ok (.getfield 34, 3) := by decide +kernel
theorem dX1_isClaim_9 : decode cX1_isClaim 9 = .ok (.if_icmp .ge 7, 3) := by decide +kernel
theorem dX1_isClaim_12 : decode cX1_isClaim 12 = .ok (.iconst 1, 1) := by decide +kernel
theorem dX1_isClaim_13 : decode cX1_isClaim 13 = .ok (.goto 4, 3) := by decide +kernel
theorem dX1_isClaim_16 : decode cX1_isClaim 16 = .ok (.iconst 0, 1) := by decide +kernel
theorem dX1_isClaim_17 : decode cX1_isClaim 17 = .ok (.ireturn, 1) := by decide +kernel
theorem dX1_tell_0 : decode cX1_tell 0 = .ok (.aload_n 0, 1) := by decide +kernel
theorem dX1_tell_1 : decode cX1_tell 1 = .ok (.iload_n 1, 1) := by decide +kernel
theorem dX1_tell_2 : decode cX1_tell 2 = .ok (.invokevirtual 94, 3) := by decide +kernel
theorem dX1_tell_5 : decode cX1_tell 5 = .ok (.ifCond .ne 5, 3) := by decide +kernel
theorem dX1_tell_8 : decode cX1_tell 8 = .ok (.iconst (-1), 1) := by decide +kernel
theorem dX1_tell_9 : decode cX1_tell 9 = .ok (.ireturn, 1) := by decide +kernel
theorem dX1_tell_10 : decode cX1_tell 10 = .ok (.iload_n 2, 1) := by decide +kernel
theorem dX1_tell_11 : decode cX1_tell 11 = .ok (.tableswitch 101 0 6 #[41, 48, 55, 62, 69, 79, 94], 41) := by decide +kernel
theorem dX1_tell_52 : decode cX1_tell 52 = .ok (.aload_n 0, 1) := by decide +kernel
theorem dX1_tell_53 : decode cX1_tell 53 = .ok (.getfield 11, 3) := by decide +kernel
theorem dX1_tell_56 : decode cX1_tell 56 = .ok (.iload_n 1, 1) := by decide +kernel
theorem dX1_tell_57 : decode cX1_tell 57 = .ok (.iaload, 1) := by decide +kernel
theorem dX1_tell_58 : decode cX1_tell 58 = .ok (.ireturn, 1) := by decide +kernel
theorem dX1_tell_59 : decode cX1_tell 59 = .ok (.aload_n 0, 1) := by decide +kernel
theorem dX1_tell_60 : decode cX1_tell 60 = .ok (.getfield 15, 3) := by decide +kernel
theorem dX1_tell_63 : decode cX1_tell 63 = .ok (.iload_n 1, 1) := by decide +kernel
theorem dX1_tell_64 : decode cX1_tell 64 = .ok (.iaload, 1) := by decide +kernel
theorem dX1_tell_65 : decode cX1_tell 65 = .ok (.ireturn, 1) := by decide +kernel
theorem dX1_tell_66 : decode cX1_tell 66 = .ok (.aload_n 0, 1) := by decide +kernel
theorem dX1_tell_67 : decode cX1_tell 67 = .ok (.getfield 18, 3) := by decide +kernel
theorem dX1_tell_70 : decode cX1_tell 70 = .ok (.iload_n 1, 1) := by decide +kernel
theorem dX1_tell_71 : decode cX1_tell 71 = .ok (.iaload, 1) := by decide +kernel
theorem dX1_tell_72 : decode cX1_tell 72 = .ok (.ireturn, 1) := by decide +kernel
theorem dX1_tell_73 : decode cX1_tell 73 = .ok (.aload_n 0, 1) := by decide +kernel
theorem dX1_tell_74 : decode cX1_tell 74 = .ok (.getfield 21, 3) := by decide +kernel
theorem dX1_tell_77 : decode cX1_tell 77 = .ok (.iload_n 1, 1) := by decide +kernel
theorem dX1_tell_78 : decode cX1_tell 78 = .ok (.iaload, 1) := by decide +kernel
theorem dX1_tell_79 : decode cX1_tell 79 = .ok (.ireturn, 1) := by decide +kernel
theorem dX1_tell_80 : decode cX1_tell 80 = .ok (.aload_n 0, 1) := by decide +kernel
theorem dX1_tell_81 : decode cX1_tell 81 = .ok (.getfield 24, 3) := by decide +kernel
theorem dX1_tell_84 : decode cX1_tell 84 = .ok (.iload_n 1, 1) := by decide +kernel
theorem dX1_tell_85 : decode cX1_tell 85 = .ok (.iaload, 1) := by decide +kernel
theorem dX1_tell_86 : decode cX1_tell 86 = .ok (.invokestatic 98, 3) := by decide +kernel
theorem dX1_tell_89 : decode cX1_tell 89 = .ok (.ireturn, 1) := by decide +kernel
theorem dX1_tell_90 : decode cX1_tell 90 = .ok (.aload_n 0, 1) := by decide +kernel
theorem dX1_tell_91 : decode cX1_tell 91 = .ok (.iload_n 1, 1) := by decide +kernel
theorem dX1_tell_92 : decode cX1_tell 92 = .ok (.invokevirtual 103, 3) := by decide +kernel
theorem dX1_tell_95 : decode cX1_tell 95 = .ok (.iconst 1, 1) := by decide +kernel
theorem dX1_tell_96 : decode cX1_tell 96 = .ok (.iload_n 1, 1) := by decide +kernel
theorem dX1_tell_97 : decode cX1_tell 97 = .ok (.ishl, 1) := by decide +kernel
theorem dX1_tell_98 : decode cX1_tell 98 = .ok (.iconst (-1), 1) := by decide +kernel
theorem dX1_tell_99 : decode cX1_tell 99 = .ok (.ixor, 1) := by decide +kernel
theorem dX1_tell_100 : decode cX1_tell 100 = .ok (.iand, 1) := by decide +kernel
theorem dX1_tell_101 : decode cX1_tell 101 = .ok (.invokestatic 98, 3) := by decide +kernel
theorem dX1_tell_104 : decode cX1_tell 104 = .ok (.ireturn, 1) := by decide +kernel
theorem dX1_tell_105 : decode cX1_tell 105 = .ok (.aload_n 0, 1) := by decide +kernel
theorem dX1_tell_106 : decode cX1_tell 106 = .ok (.getfield 27, 3) := by decide +kernel
theorem dX1_tell_109 : decode cX1_tell 109 = .ok (.iload_n 1, 1) := by decide +kernel
theorem dX1_tell_110 : decode cX1_tell 110 = .ok (.iaload, 1) := by decide +kernel
theorem dX1_tell_111 : decode cX1_tell 111 = .ok (.ireturn, 1) := by decide +kernel
theorem dX1_tell_112 : decode cX1_tell 112 = .ok (.iconst (-1), 1) := by decide +kernel
theorem dX1_tell_113 : decode cX1_tell 113 = .ok (.ireturn, 1) := by decide +kernel
theorem dX1_takeBack_0 : decode cX1_takeBack 0 = .ok (.aload_n 0, 1) := by decide +kernel
theorem dX1_takeBack_1 : decode cX1_takeBack 1 = .ok (.iload_n 1, 1) := by decide +kernel
theorem dX1_takeBack_2 : decode cX1_takeBack 2 = .ok (.invokevirtual 94, 3) := by decide +kernel
theorem dX1_takeBack_5 : decode cX1_takeBack 5 = .ok (.ifCond .ne 5, 3) := by decide +kernel
theorem dX1_takeBack_8 : decode cX1_takeBack 8 = .ok (.iconst (-1), 1) := by decide +kernel
theorem dX1_takeBack_9 : decode cX1_takeBack 9 = .ok (.ireturn, 1) := by decide +kernel
theorem dX1_takeBack_10 : decode cX1_takeBack 10 = .ok (.aload_n 0, 1) := by decide +kernel
theorem dX1_takeBack_11 : decode cX1_takeBack 11 = .ok (.getfield 21, 3) := by decide +kernel
theorem dX1_takeBack_14 : decode cX1_takeBack 14 = .ok (.iload_n 1, 1) := by decide +kernel
theorem dX1_takeBack_15 : decode cX1_takeBack 15 = .ok (.iaload, 1) := by decide +kernel
theorem dX1_takeBack_16 : decode cX1_takeBack 16 = .ok (.bipush (-4), 2) := by decide +kernel
theorem dX1_takeBack_18 : decode cX1_takeBack 18 = .ok (.if_icmp .eq 6, 3) := by decide +kernel
theorem dX1_takeBack_21 : decode cX1_takeBack 21 = .ok (.bipush (-2), 2) := by decide +kernel
theorem dX1_takeBack_23 : decode cX1_takeBack 23 = .ok (.ireturn, 1) := by decide +kernel
theorem dX1_takeBack_24 : decode cX1_takeBack 24 = .ok (.aload_n 0, 1) := by decide +kernel
theorem dX1_takeBack_25 : decode cX1_takeBack 25 = .ok (.iload_n 1, 1) := by decide +kernel
theorem dX1_takeBack_26 : decode cX1_takeBack 26 = .ok (.invokevirtual 103, 3) := by decide +kernel
theorem dX1_takeBack_29 : decode cX1_takeBack 29 = .ok (.istore_n 2, 1) := by decide +kernel
theorem dX1_takeBack_30 : decode cX1_takeBack 30 = .ok (.iload_n 1, 1) := by decide +kernel
theorem dX1_takeBack_31 : decode cX1_takeBack 31 = .ok (.istore_n 3, 1) := by decide +kernel
theorem dX1_takeBack_32 : decode cX1_takeBack 32 = .ok (.iload_n 3, 1) := by decide +kernel
theorem dX1_takeBack_33 : decode cX1_takeBack 33 = .ok (.aload_n 0, 1) := by decide +kernel
theorem dX1_takeBack_34 : decode cX1_takeBack 34 = .ok (.getfield 34, 3) := by decide +kernel
theorem dX1_takeBack_37 : decode cX1_takeBack 37 = .ok (.if_icmp .ge 28, 3) := by decide +kernel
theorem dX1_takeBack_40 : decode cX1_takeBack 40 = .ok (.iload_n 2, 1) := by decide +kernel
theorem dX1_takeBack_41 : decode cX1_takeBack 41 = .ok (.iload_n 3, 1) := by decide +kernel
theorem dX1_takeBack_42 : decode cX1_takeBack 42 = .ok (.ishr, 1) := by decide +kernel
theorem dX1_takeBack_43 : decode cX1_takeBack 43 = .ok (.iconst 1, 1) := by decide +kernel
theorem dX1_takeBack_44 : decode cX1_takeBack 44 = .ok (.iand, 1) := by decide +kernel
theorem dX1_takeBack_45 : decode cX1_takeBack 45 = .ok (.iconst 1, 1) := by decide +kernel
theorem dX1_takeBack_46 : decode cX1_takeBack 46 = .ok (.if_icmp .ne 13, 3) := by decide +kernel
theorem dX1_takeBack_49 : decode cX1_takeBack 49 = .ok (.aload_n 0, 1) := by decide +kernel
theorem dX1_takeBack_50 : decode cX1_takeBack 50 = .ok (.getfield 21, 3) := by decide +kernel
theorem dX1_takeBack_53 : decode cX1_takeBack 53 = .ok (.iload_n 3, 1) := by decide +kernel
theorem dX1_takeBack_54 : decode cX1_takeBack 54 = .ok (.aload_n 0, 1) := by decide +kernel
theorem dX1_takeBack_55 : decode cX1_takeBack 55 = .ok (.getfield 41, 3) := by decide +kernel
theorem dX1_takeBack_58 : decode cX1_takeBack 58 = .ok (.iastore, 1) := by decide +kernel
theorem dX1_takeBack_59 : decode cX1_takeBack 59 = .ok (.iinc 3 1, 3) := by decide +kernel
theorem dX1_takeBack_62 : decode cX1_takeBack 62 = .ok (.goto (-30), 3) := by decide +kernel
theorem dX1_takeBack_65 : decode cX1_takeBack 65 = .ok (.iload_n 2, 1) := by decide +kernel
theorem dX1_takeBack_66 : decode cX1_takeBack 66 = .ok (.invokestatic 98, 3) := by decide +kernel
theorem dX1_takeBack_69 : decode cX1_takeBack 69 = .ok (.ireturn, 1) := by decide +kernel
theorem dX1_hangingOn_0 : decode cX1_hangingOn 0 = .ok (.iconst 1, 1) := by decide +kernel
theorem dX1_hangingOn_1 : decode cX1_hangingOn 1 = .ok (.iload_n 1, 1) := by decide +kernel
theorem dX1_hangingOn_2 : decode cX1_hangingOn 2 = .ok (.ishl, 1) := by decide +kernel
theorem dX1_hangingOn_3 : decode cX1_hangingOn 3 = .ok (.istore_n 2, 1) := by decide +kernel
theorem dX1_hangingOn_4 : decode cX1_hangingOn 4 = .ok (.iload_n 1, 1) := by decide +kernel
theorem dX1_hangingOn_5 : decode cX1_hangingOn 5 = .ok (.iconst 1, 1) := by decide +kernel
theorem dX1_hangingOn_6 : decode cX1_hangingOn 6 = .ok (.iadd, 1) := by decide +kernel
theorem dX1_hangingOn_7 : decode cX1_hangingOn 7 = .ok (.istore_n 3, 1) := by decide +kernel
theorem dX1_hangingOn_8 : decode cX1_hangingOn 8 = .ok (.iload_n 3, 1) := by decide +kernel
theorem dX1_hangingOn_9 : decode cX1_hangingOn 9 = .ok (.aload_n 0, 1) := by decide +kernel
theorem dX1_hangingOn_10 : decode cX1_hangingOn 10 = .ok (.getfield 34, 3) := by decide +kernel
theorem dX1_hangingOn_13 : decode cX1_hangingOn 13 = .ok (.if_icmp .ge 37, 3) := by decide +kernel
theorem dX1_hangingOn_16 : decode cX1_hangingOn 16 = .ok (.aload_n 0, 1) := by decide +kernel
theorem dX1_hangingOn_17 : decode cX1_hangingOn 17 = .ok (.getfield 21, 3) := by decide +kernel
theorem dX1_hangingOn_20 : decode cX1_hangingOn 20 = .ok (.iload_n 3, 1) := by decide +kernel
theorem dX1_hangingOn_21 : decode cX1_hangingOn 21 = .ok (.iaload, 1) := by decide +kernel
theorem dX1_hangingOn_22 : decode cX1_hangingOn 22 = .ok (.bipush (-4), 2) := by decide +kernel
theorem dX1_hangingOn_24 : decode cX1_hangingOn 24 = .ok (.if_icmp .ne 20, 3) := by decide +kernel
theorem dX1_hangingOn_27 : decode cX1_hangingOn 27 = .ok (.aload_n 0, 1) := by decide +kernel
theorem dX1_hangingOn_28 : decode cX1_hangingOn 28 = .ok (.getfield 24, 3) := by decide +kernel
theorem dX1_hangingOn_31 : decode cX1_hangingOn 31 = .ok (.iload_n 3, 1) := by decide +kernel
theorem dX1_hangingOn_32 : decode cX1_hangingOn 32 = .ok (.iaload, 1) := by decide +kernel
theorem dX1_hangingOn_33 : decode cX1_hangingOn 33 = .ok (.iload_n 2, 1) := by decide +kernel
theorem dX1_hangingOn_34 : decode cX1_hangingOn 34 = .ok (.iand, 1) := by decide +kernel
theorem dX1_hangingOn_35 : decode cX1_hangingOn 35 = .ok (.ifCond .eq 9, 3) := by decide +kernel
theorem dX1_hangingOn_38 : decode cX1_hangingOn 38 = .ok (.iload_n 2, 1) := by decide +kernel
theorem dX1_hangingOn_39 : decode cX1_hangingOn 39 = .ok (.iconst 1, 1) := by decide +kernel
theorem dX1_hangingOn_40 : decode cX1_hangingOn 40 = .ok (.iload_n 3, 1) := by decide +kernel
theorem dX1_hangingOn_41 : decode cX1_hangingOn 41 = .ok (.ishl, 1) := by decide +kernel
theorem dX1_hangingOn_42 : decode cX1_hangingOn 42 = .ok (.ior, 1) := by decide +kernel
theorem dX1_hangingOn_43 : decode cX1_hangingOn 43 = .ok (.istore_n 2, 1) := by decide +kernel
theorem dX1_hangingOn_44 : decode cX1_hangingOn 44 = .ok (.iinc 3 1, 3) := by decide +kernel
theorem dX1_hangingOn_47 : decode cX1_hangingOn 47 = .ok (.goto (-39), 3) := by decide +kernel
theorem dX1_hangingOn_50 : decode cX1_hangingOn 50 = .ok (.iload_n 2, 1) := by decide +kernel
theorem dX1_hangingOn_51 : decode cX1_hangingOn 51 = .ok (.ireturn, 1) := by decide +kernel
theorem dX1_moveDay_0 : decode cX1_moveDay 0 = .ok (.iload_n 1, 1) := by decide +kernel
theorem dX1_moveDay_1 : decode cX1_moveDay 1 = .ok (.aload_n 0, 1) := by decide +kernel
theorem dX1_moveDay_2 : decode cX1_moveDay 2 = .ok (.getfield 41, 3) := by decide +kernel
theorem dX1_moveDay_5 : decode cX1_moveDay 5 = .ok (.if_icmp .lt 9, 3) := by decide +kernel
theorem dX1_moveDay_8 : decode cX1_moveDay 8 = .ok (.iload_n 1, 1) := by decide +kernel
theorem dX1_moveDay_9 : decode cX1_moveDay 9 = .ok (.bipush 99, 2) := by decide +kernel
theorem dX1_moveDay_11 : decode cX1_moveDay 11 = .ok (.if_icmp .le 5, 3) := by decide +kernel
theorem dX1_moveDay_14 : decode cX1_moveDay 14 = .ok (.iconst (-1), 1) := by decide +kernel
theorem dX1_moveDay_15 : decode cX1_moveDay 15 = .ok (.ireturn, 1) := by decide +kernel
theorem dX1_moveDay_16 : decode cX1_moveDay 16 = .ok (.aload_n 0, 1) := by decide +kernel
theorem dX1_moveDay_17 : decode cX1_moveDay 17 = .ok (.getfield 41, 3) := by decide +kernel
theorem dX1_moveDay_20 : decode cX1_moveDay 20 = .ok (.istore_n 2, 1) := by decide +kernel
theorem dX1_moveDay_21 : decode cX1_moveDay 21 = .ok (.aload_n 0, 1) := by decide +kernel
theorem dX1_moveDay_22 : decode cX1_moveDay 22 = .ok (.iload_n 1, 1) := by decide +kernel
theorem dX1_moveDay_23 : decode cX1_moveDay 23 = .ok (.putfield 41, 3) := by decide +kernel
theorem dX1_moveDay_26 : decode cX1_moveDay 26 = .ok (.iload_n 2, 1) := by decide +kernel
theorem dX1_moveDay_27 : decode cX1_moveDay 27 = .ok (.ireturn, 1) := by decide +kernel
theorem dX1_knownOn_0 : decode cX1_knownOn 0 = .ok (.iload_n 1, 1) := by decide +kernel
theorem dX1_knownOn_1 : decode cX1_knownOn 1 = .ok (.ifCond .lt 18, 3) := by decide +kernel
theorem dX1_knownOn_4 : decode cX1_knownOn 4 = .ok (.iload_n 1, 1) := by decide +kernel
theorem dX1_knownOn_5 : decode cX1_knownOn 5 = .ok (.bipush 99, 2) := by decide +kernel
theorem dX1_knownOn_7 : decode cX1_knownOn 7 = .ok (.if_icmp .gt 12, 3) := by decide +kernel
theorem dX1_knownOn_10 : decode cX1_knownOn 10 = .ok (.iload_n 2, 1) := by decide +kernel
theorem dX1_knownOn_11 : decode cX1_knownOn 11 = .ok (.ifCond .lt 8, 3) := by decide +kernel
theorem dX1_knownOn_14 : decode cX1_knownOn 14 = .ok (.iload_n 2, 1) := by decide +kernel
theorem dX1_knownOn_15 : decode cX1_knownOn 15 = .ok (.iconst 2, 1) := by decide +kernel
theorem dX1_knownOn_16 : decode cX1_knownOn 16 = .ok (.if_icmp .le 5, 3) := by decide +kernel
theorem dX1_knownOn_19 : decode cX1_knownOn 19 = .ok (.iconst (-1), 1) := by decide +kernel
theorem dX1_knownOn_20 : decode cX1_knownOn 20 = .ok (.ireturn, 1) := by decide +kernel
theorem dX1_knownOn_21 : decode cX1_knownOn 21 = .ok (.iconst 0, 1) := by decide +kernel
theorem dX1_knownOn_22 : decode cX1_knownOn 22 = .ok (.istore_n 3, 1) := by decide +kernel
theorem dX1_knownOn_23 : decode cX1_knownOn 23 = .ok (.bipush (-4), 2) := by decide +kernel
theorem dX1_knownOn_25 : decode cX1_knownOn 25 = .ok (.istore 4, 2) := by decide +kernel
theorem dX1_knownOn_27 : decode cX1_knownOn 27 = .ok (.bipush (-4), 2) := by decide +kernel
theorem dX1_knownOn_29 : decode cX1_knownOn 29 = .ok (.istore 5, 2) := by decide +kernel
theorem dX1_knownOn_31 : decode cX1_knownOn 31 = .ok (.iconst 0, 1) := by decide +kernel
theorem dX1_knownOn_32 : decode cX1_knownOn 32 = .ok (.istore 6, 2) := by decide +kernel
theorem dX1_knownOn_34 : decode cX1_knownOn 34 = .ok (.iload 6, 2) := by decide +kernel
theorem dX1_knownOn_36 : decode cX1_knownOn 36 = .ok (.aload_n 0, 1) := by decide +kernel
theorem dX1_knownOn_37 : decode cX1_knownOn 37 = .ok (.getfield 34, 3) := by decide +kernel
theorem dX1_knownOn_40 : decode cX1_knownOn 40 = .ok (.if_icmp .ge 37, 3) := by decide +kernel
theorem dX1_knownOn_43 : decode cX1_knownOn 43 = .ok (.aload_n 0, 1) := by decide +kernel
theorem dX1_knownOn_44 : decode cX1_knownOn 44 = .ok (.iload 6, 2) := by decide +kernel
theorem dX1_knownOn_46 : decode cX1_knownOn 46 = .ok (.iload_n 1, 1) := by decide +kernel
theorem dX1_knownOn_47 : decode cX1_knownOn 47 = .ok (.invokevirtual 106, 3) := by decide +kernel
theorem dX1_knownOn_50 : decode cX1_knownOn 50 = .ok (.ifCond .ne 6, 3) := by decide +kernel
theorem dX1_knownOn_53 : decode cX1_knownOn 53 = .ok (.goto 18, 3) := by decide +kernel
theorem dX1_knownOn_56 : decode cX1_knownOn 56 = .ok (.iload_n 3, 1) := by decide +kernel
theorem dX1_knownOn_57 : decode cX1_knownOn 57 = .ok (.ifCond .ne 7, 3) := by decide +kernel
theorem dX1_knownOn_60 : decode cX1_knownOn 60 = .ok (.iload 6, 2) := by decide +kernel
theorem dX1_knownOn_62 : decode cX1_knownOn 62 = .ok (.istore 4, 2) := by decide +kernel
theorem dX1_knownOn_64 : decode cX1_knownOn 64 = .ok (.iload 6, 2) := by decide +kernel
theorem dX1_knownOn_66 : decode cX1_knownOn 66 = .ok (.istore 5, 2) := by decide +kernel
theorem dX1_knownOn_68 : decode cX1_knownOn 68 = .ok (.iinc 3 1, 3) := by decide +kernel
theorem dX1_knownOn_71 : decode cX1_knownOn 71 = .ok (.iinc 6 1, 3) := by decide +kernel
theorem dX1_knownOn_74 : decode cX1_knownOn 74 = .ok (.goto (-40), 3) := by decide +kernel
theorem dX1_knownOn_77 : decode cX1_knownOn 77 = .ok (.iload_n 2, 1) := by decide +kernel
theorem dX1_knownOn_78 : decode cX1_knownOn 78 = .ok (.ifCond .ne 5, 3) := by decide +kernel
theorem dX1_knownOn_81 : decode cX1_knownOn 81 = .ok (.iload_n 3, 1) := by decide +kernel
theorem dX1_knownOn_82 : decode cX1_knownOn 82 = .ok (.ireturn, 1) := by decide +kernel
theorem dX1_knownOn_83 : decode cX1_knownOn 83 = .ok (.iload_n 2, 1) := by decide +kernel
theorem dX1_knownOn_84 : decode cX1_knownOn 84 = .ok (.iconst 1, 1) := by decide +kernel
theorem dX1_knownOn_85 : decode cX1_knownOn 85 = .ok (.if_icmp .ne 8, 3) := by decide +kernel
theorem dX1_knownOn_88 : decode cX1_knownOn 88 = .ok (.iload 4, 2) := by decide +kernel
theorem dX1_knownOn_90 : decode cX1_knownOn 90 = .ok (.goto 5, 3) := by decide +kernel
theorem dX1_knownOn_93 : decode cX1_knownOn 93 = .ok (.iload 5, 2) := by decide +kernel
theorem dX1_knownOn_95 : decode cX1_knownOn 95 = .ok (.ireturn, 1) := by decide +kernel
theorem dX1_isKnown_0 : decode cX1_isKnown 0 = .ok (.aload_n 0, 1) := by decide +kernel
theorem dX1_isKnown_1 : decode cX1_isKnown 1 = .ok (.getfield 18, 3) := by decide +kernel
theorem dX1_isKnown_4 : decode cX1_isKnown 4 = .ok (.iload_n 1, 1) := by decide +kernel
theorem dX1_isKnown_5 : decode cX1_isKnown 5 = .ok (.iaload, 1) := by decide +kernel
theorem dX1_isKnown_6 : decode cX1_isKnown 6 = .ok (.iload_n 2, 1) := by decide +kernel
theorem dX1_isKnown_7 : decode cX1_isKnown 7 = .ok (.if_icmp .gt 28, 3) := by decide +kernel
theorem dX1_isKnown_10 : decode cX1_isKnown 10 = .ok (.aload_n 0, 1) := by decide +kernel
theorem dX1_isKnown_11 : decode cX1_isKnown 11 = .ok (.getfield 21, 3) := by decide +kernel
theorem dX1_isKnown_14 : decode cX1_isKnown 14 = .ok (.iload_n 1, 1) := by decide +kernel
theorem dX1_isKnown_15 : decode cX1_isKnown 15 = .ok (.iaload, 1) := by decide +kernel
theorem dX1_isKnown_16 : decode cX1_isKnown 16 = .ok (.bipush (-4), 2) := by decide +kernel
theorem dX1_isKnown_18 : decode cX1_isKnown 18 = .ok (.if_icmp .eq 13, 3) := by decide +kernel
theorem dX1_isKnown_21 : decode cX1_isKnown 21 = .ok (.aload_n 0, 1) := by decide +kernel
theorem dX1_isKnown_22 : decode cX1_isKnown 22 = .ok (.getfield 21, 3) := by decide +kernel
theorem dX1_isKnown_25 : decode cX1_isKnown 25 = .ok (.iload_n 1, 1) := by decide +kernel
theorem dX1_isKnown_26 : decode cX1_isKnown 26 = .ok (.iaload, 1) := by decide +kernel
theorem dX1_isKnown_27 : decode cX1_isKnown 27 = .ok (.iload_n 2, 1) := by decide +kernel
theorem dX1_isKnown_28 : decode cX1_isKnown 28 = .ok (.if_icmp .le 7, 3) := by decide +kernel
theorem dX1_isKnown_31 : decode cX1_isKnown 31 = .ok (.iconst 1, 1) := by decide +kernel
theorem dX1_isKnown_32 : decode cX1_isKnown 32 = .ok (.goto 4, 3) := by decide +kernel
theorem dX1_isKnown_35 : decode cX1_isKnown 35 = .ok (.iconst 0, 1) := by decide +kernel
theorem dX1_isKnown_36 : decode cX1_isKnown 36 = .ok (.ireturn, 1) := by decide +kernel
theorem dX2_init_0 : decode cX2_init 0 = .ok (.aload_n 0, 1) := by decide +kernel
theorem dX2_init_1 : decode cX2_init 1 = .ok (.invokespecial 3, 3) := by decide +kernel
theorem dX2_init_4 : decode cX2_init 4 = .ok (.aload_n 0, 1) := by decide +kernel
theorem dX2_init_5 : decode cX2_init 5 = .ok (.bipush 24, 2) := by decide +kernel
theorem dX2_init_7 : decode cX2_init 7 = .ok (.newarray .int, 2) := by decide +kernel
theorem dX2_init_9 : decode cX2_init 9 = .ok (.putfield 11, 3) := by decide +kernel
theorem dX2_init_12 : decode cX2_init 12 = .ok (.aload_n 0, 1) := by decide +kernel
theorem dX2_init_13 : decode cX2_init 13 = .ok (.bipush 24, 2) := by decide +kernel
theorem dX2_init_15 : decode cX2_init 15 = .ok (.newarray .int, 2) := by decide +kernel
theorem dX2_init_17 : decode cX2_init 17 = .ok (.putfield 15, 3) := by decide +kernel
theorem dX2_init_20 : decode cX2_init 20 = .ok (.aload_n 0, 1) := by decide +kernel
theorem dX2_init_21 : decode cX2_init 21 = .ok (.bipush 24, 2) := by decide +kernel
theorem dX2_init_23 : decode cX2_init 23 = .ok (.newarray .int, 2) := by decide +kernel
theorem dX2_init_25 : decode cX2_init 25 = .ok (.putfield 18, 3) := by decide +kernel
theorem dX2_init_28 : decode cX2_init 28 = .ok (.aload_n 0, 1) := by decide +kernel
theorem dX2_init_29 : decode cX2_init 29 = .ok (.iconst 1, 1) := by decide +kernel
theorem dX2_init_30 : decode cX2_init 30 = .ok (.putfield 21, 3) := by decide +kernel
theorem dX2_init_33 : decode cX2_init 33 = .ok (.return_, 1) := by decide +kernel
theorem dX2_size_0 : decode cX2_size 0 = .ok (.aload_n 0, 1) := by decide +kernel
theorem dX2_size_1 : decode cX2_size 1 = .ok (.getfield 25, 3) := by decide +kernel
theorem dX2_size_4 : decode cX2_size 4 = .ok (.ireturn, 1) := by decide +kernel
theorem dX2_add_0 : decode cX2_add 0 = .ok (.iload_n 1, 1) := by decide +kernel
theorem dX2_add_1 : decode cX2_add 1 = .ok (.ifCond .lt 10, 3) := by decide +kernel
theorem dX2_add_4 : decode cX2_add 4 = .ok (.iload_n 1, 1) := by decide +kernel
theorem dX2_add_5 : decode cX2_add 5 = .ok (.sipush 4096, 3) := by decide +kernel
theorem dX2_add_8 : decode cX2_add 8 = .ok (.if_icmp .lt 5, 3) := by decide +kernel
theorem dX2_add_11 : decode cX2_add 11 = .ok (.iconst (-1), 1) := by decide +kernel
theorem dX2_add_12 : decode cX2_add 12 = .ok (.ireturn, 1) := by decide +kernel
theorem dX2_add_13 : decode cX2_add 13 = .ok (.aload_n 0, 1) := by decide +kernel
theorem dX2_add_14 : decode cX2_add 14 = .ok (.getfield 25, 3) := by decide +kernel
theorem dX2_add_17 : decode cX2_add 17 = .ok (.bipush 24, 2) := by decide +kernel
theorem dX2_add_19 : decode cX2_add 19 = .ok (.if_icmp .lt 6, 3) := by decide +kernel
theorem dX2_add_22 : decode cX2_add 22 = .ok (.bipush (-3), 2) := by decide +kernel
theorem dX2_add_24 : decode cX2_add 24 = .ok (.ireturn, 1) := by decide +kernel
theorem dX2_add_25 : decode cX2_add 25 = .ok (.aload_n 0, 1) := by decide +kernel
theorem dX2_add_26 : decode cX2_add 26 = .ok (.getfield 11, 3) := by decide +kernel
theorem dX2_add_29 : decode cX2_add 29 = .ok (.aload_n 0, 1) := by decide +kernel
theorem dX2_add_30 : decode cX2_add 30 = .ok (.getfield 25, 3) := by decide +kernel
theorem dX2_add_33 : decode cX2_add 33 = .ok (.iload_n 1, 1) := by decide +kernel
theorem dX2_add_34 : decode cX2_add 34 = .ok (.iastore, 1) := by decide +kernel
theorem dX2_add_35 : decode cX2_add 35 = .ok (.aload_n 0, 1) := by decide +kernel
theorem dX2_add_36 : decode cX2_add 36 = .ok (.dup, 1) := by decide +kernel
theorem dX2_add_37 : decode cX2_add 37 = .ok (.getfield 25, 3) := by decide +kernel
theorem dX2_add_40 : decode cX2_add 40 = .ok (.iconst 1, 1) := by decide +kernel
theorem dX2_add_41 : decode cX2_add 41 = .ok (.iadd, 1) := by decide +kernel
theorem dX2_add_42 : decode cX2_add 42 = .ok (.putfield 25, 3) := by decide +kernel
theorem dX2_add_45 : decode cX2_add 45 = .ok (.aload_n 0, 1) := by decide +kernel
theorem dX2_add_46 : decode cX2_add 46 = .ok (.aload_n 0, 1) := by decide +kernel
theorem dX2_add_47 : decode cX2_add 47 = .ok (.getfield 21, 3) := by decide +kernel
theorem dX2_add_50 : decode cX2_add 50 = .ok (.aload_n 0, 1) := by decide +kernel
theorem dX2_add_51 : decode cX2_add 51 = .ok (.getfield 15, 3) := by decide +kernel
theorem dX2_add_54 : decode cX2_add 54 = .ok (.invokevirtual 28, 3) := by decide +kernel
theorem dX2_add_57 : decode cX2_add 57 = .ok (.aload_n 0, 1) := by decide +kernel
theorem dX2_add_58 : decode cX2_add 58 = .ok (.getfield 25, 3) := by decide +kernel
theorem dX2_add_61 : decode cX2_add 61 = .ok (.iconst 1, 1) := by decide +kernel
theorem dX2_add_62 : decode cX2_add 62 = .ok (.isub, 1) := by decide +kernel
theorem dX2_add_63 : decode cX2_add 63 = .ok (.ireturn, 1) := by decide +kernel
theorem dX2_limitTo_0 : decode cX2_limitTo 0 = .ok (.iload_n 1, 1) := by decide +kernel
theorem dX2_limitTo_1 : decode cX2_limitTo 1 = .ok (.ifCond .lt 9, 3) := by decide +kernel
theorem dX2_limitTo_4 : decode cX2_limitTo 4 = .ok (.iload_n 1, 1) := by decide +kernel
theorem dX2_limitTo_5 : decode cX2_limitTo 5 = .ok (.bipush 12, 2) := by decide +kernel
theorem dX2_limitTo_7 : decode cX2_limitTo 7 = .ok (.if_icmp .le 5, 3) := by decide +kernel
theorem dX2_limitTo_10 : decode cX2_limitTo 10 = .ok (.iconst (-1), 1) := by decide +kernel
theorem dX2_limitTo_11 : decode cX2_limitTo 11 = .ok (.ireturn, 1) := by decide +kernel
theorem dX2_limitTo_12 : decode cX2_limitTo 12 = .ok (.aload_n 0, 1) := by decide +kernel
theorem dX2_limitTo_13 : decode cX2_limitTo 13 = .ok (.getfield 21, 3) := by decide +kernel
theorem dX2_limitTo_16 : decode cX2_limitTo 16 = .ok (.istore_n 2, 1) := by decide +kernel
theorem dX2_limitTo_17 : decode cX2_limitTo 17 = .ok (.aload_n 0, 1) := by decide +kernel
theorem dX2_limitTo_18 : decode cX2_limitTo 18 = .ok (.iload_n 1, 1) := by decide +kernel
theorem dX2_limitTo_19 : decode cX2_limitTo 19 = .ok (.putfield 21, 3) := by decide +kernel
theorem dX2_limitTo_22 : decode cX2_limitTo 22 = .ok (.aload_n 0, 1) := by decide +kernel
theorem dX2_limitTo_23 : decode cX2_limitTo 23 = .ok (.aload_n 0, 1) := by decide +kernel
theorem dX2_limitTo_24 : decode cX2_limitTo 24 = .ok (.getfield 21, 3) := by decide +kernel
theorem dX2_limitTo_27 : decode cX2_limitTo 27 = .ok (.aload_n 0, 1) := by decide +kernel
theorem dX2_limitTo_28 : decode cX2_limitTo 28 = .ok (.getfield 15, 3) := by decide +kernel
theorem dX2_limitTo_31 : decode cX2_limitTo 31 = .ok (.invokevirtual 28, 3) := by decide +kernel
theorem dX2_limitTo_34 : decode cX2_limitTo 34 = .ok (.iload_n 2, 1) := by decide +kernel
theorem dX2_limitTo_35 : decode cX2_limitTo 35 = .ok (.ireturn, 1) := by decide +kernel
theorem dX2_isForm_0 : decode cX2_isForm 0 = .ok (.iload_n 1, 1) := by decide +kernel
theorem dX2_isForm_1 : decode cX2_isForm 1 = .ok (.ifCond .lt 15, 3) := by decide +kernel
theorem dX2_isForm_4 : decode cX2_isForm 4 = .ok (.iload_n 1, 1) := by decide +kernel
theorem dX2_isForm_5 : decode cX2_isForm 5 = .ok (.aload_n 0, 1) := by decide +kernel
theorem dX2_isForm_6 : decode cX2_isForm 6 = .ok (.getfield 25, 3) := by decide +kernel
theorem dX2_isForm_9 : decode cX2_isForm 9 = .ok (.if_icmp .ge 7, 3) := by decide +kernel
theorem dX2_isForm_12 : decode cX2_isForm 12 = .ok (.iconst 1, 1) := by decide +kernel
theorem dX2_isForm_13 : decode cX2_isForm 13 = .ok (.goto 4, 3) := by decide +kernel
theorem dX2_isForm_16 : decode cX2_isForm 16 = .ok (.iconst 0, 1) := by decide +kernel
theorem dX2_isForm_17 : decode cX2_isForm 17 = .ok (.ireturn, 1) := by decide +kernel
theorem dX2_isSign_0 : decode cX2_isSign 0 = .ok (.aload_n 0, 1) := by decide +kernel
theorem dX2_isSign_1 : decode cX2_isSign 1 = .ok (.iload_n 1, 1) := by decide +kernel
theorem dX2_isSign_2 : decode cX2_isSign 2 = .ok (.invokevirtual 32, 3) := by decide +kernel
theorem dX2_isSign_5 : decode cX2_isSign 5 = .ok (.ifCond .eq 17, 3) := by decide +kernel
theorem dX2_isSign_8 : decode cX2_isSign 8 = .ok (.aload_n 0, 1) := by decide +kernel
theorem dX2_isSign_9 : decode cX2_isSign 9 = .ok (.getfield 15, 3) := by decide +kernel
theorem dX2_isSign_12 : decode cX2_isSign 12 = .ok (.iload_n 1, 1) := by decide +kernel
theorem dX2_isSign_13 : decode cX2_isSign 13 = .ok (.iaload, 1) := by decide +kernel
theorem dX2_isSign_14 : decode cX2_isSign 14 = .ok (.iload_n 1, 1) := by decide +kernel
theorem dX2_isSign_15 : decode cX2_isSign 15 = .ok (.if_icmp .ne 7, 3) := by decide +kernel
theorem dX2_isSign_18 : decode cX2_isSign 18 = .ok (.iconst 1, 1) := by decide +kernel
theorem dX2_isSign_19 : decode cX2_isSign 19 = .ok (.goto 4, 3) := by decide +kernel
theorem dX2_isSign_22 : decode cX2_isSign 22 = .ok (.iconst 0, 1) := by decide +kernel
theorem dX2_isSign_23 : decode cX2_isSign 23 = .ok (.ireturn, 1) := by decide +kernel
theorem dX2_signOf_0 : decode cX2_signOf 0 = .ok (.iload_n 1, 1) := by decide +kernel
theorem dX2_signOf_1 : decode cX2_signOf 1 = .ok (.ifCond .lt 20, 3) := by decide +kernel
theorem dX2_signOf_4 : decode cX2_signOf 4 = .ok (.iload_n 1, 1) := by decide +kernel
theorem dX2_signOf_5 : decode cX2_signOf 5 = .ok (.aload_n 0, 1) := by decide +kernel
theorem dX2_signOf_6 : decode cX2_signOf 6 = .ok (.getfield 25, 3) := by decide +kernel
theorem dX2_signOf_9 : decode cX2_signOf 9 = .ok (.if_icmp .ge 12, 3) := by decide +kernel
theorem dX2_signOf_12 : decode cX2_signOf 12 = .ok (.aload_n 0, 1) := by decide +kernel
theorem dX2_signOf_13 : decode cX2_signOf 13 = .ok (.getfield 15, 3) := by decide +kernel
theorem dX2_signOf_16 : decode cX2_signOf 16 = .ok (.iload_n 1, 1) := by decide +kernel
theorem dX2_signOf_17 : decode cX2_signOf 17 = .ok (.iaload, 1) := by decide +kernel
theorem dX2_signOf_18 : decode cX2_signOf 18 = .ok (.goto 4, 3) := by decide +kernel
theorem dX2_signOf_21 : decode cX2_signOf 21 = .ok (.iconst (-1), 1) := by decide +kernel
theorem dX2_signOf_22 : decode cX2_signOf 22 = .ok (.ireturn, 1) := by decide +kernel
theorem dX2_groups_0 : decode cX2_groups 0 = .ok (.iconst 0, 1) := by decide +kernel
theorem dX2_groups_1 : decode cX2_groups 1 = .ok (.istore_n 1, 1) := by decide +kernel
theorem dX2_groups_2 : decode cX2_groups 2 = .ok (.iconst 0, 1) := by decide +kernel
theorem dX2_groups_3 : decode cX2_groups 3 = .ok (.istore_n 2, 1) := by decide +kernel
theorem dX2_groups_4 : decode cX2_groups 4 = .ok (.iload_n 2, 1) := by decide +kernel
theorem dX2_groups_5 : decode cX2_groups 5 = .ok (.aload_n 0, 1) := by decide +kernel
theorem dX2_groups_6 : decode cX2_groups 6 = .ok (.getfield 25, 3) := by decide +kernel
theorem dX2_groups_9 : decode cX2_groups 9 = .ok (.if_icmp .ge 22, 3) := by decide +kernel
theorem dX2_groups_12 : decode cX2_groups 12 = .ok (.aload_n 0, 1) := by decide +kernel
theorem dX2_groups_13 : decode cX2_groups 13 = .ok (.getfield 15, 3) := by decide +kernel
theorem dX2_groups_16 : decode cX2_groups 16 = .ok (.iload_n 2, 1) := by decide +kernel
theorem dX2_groups_17 : decode cX2_groups 17 = .ok (.iaload, 1) := by decide +kernel
theorem dX2_groups_18 : decode cX2_groups 18 = .ok (.iload_n 2, 1) := by decide +kernel
theorem dX2_groups_19 : decode cX2_groups 19 = .ok (.if_icmp .ne 6, 3) := by decide +kernel
theorem dX2_groups_22 : decode cX2_groups 22 = .ok (.iinc 1 1, 3) := by decide +kernel
theorem dX2_groups_25 : decode cX2_groups 25 = .ok (.iinc 2 1, 3) := by decide +kernel
theorem dX2_groups_28 : decode cX2_groups 28 = .ok (.goto (-24), 3) := by decide +kernel
theorem dX2_groups_31 : decode cX2_groups 31 = .ok (.iload_n 1, 1) := by decide +kernel
theorem dX2_groups_32 : decode cX2_groups 32 = .ok (.ireturn, 1) := by decide +kernel
theorem dX2_membersOf_0 : decode cX2_membersOf 0 = .ok (.iconst 0, 1) := by decide +kernel
theorem dX2_membersOf_1 : decode cX2_membersOf 1 = .ok (.istore_n 2, 1) := by decide +kernel
theorem dX2_membersOf_2 : decode cX2_membersOf 2 = .ok (.iconst 0, 1) := by decide +kernel
theorem dX2_membersOf_3 : decode cX2_membersOf 3 = .ok (.istore_n 3, 1) := by decide +kernel
theorem dX2_membersOf_4 : decode cX2_membersOf 4 = .ok (.iload_n 3, 1) := by decide +kernel
theorem dX2_membersOf_5 : decode cX2_membersOf 5 = .ok (.aload_n 0, 1) := by decide +kernel
theorem dX2_membersOf_6 : decode cX2_membersOf 6 = .ok (.getfield 25, 3) := by decide +kernel
theorem dX2_membersOf_9 : decode cX2_membersOf 9 = .ok (.if_icmp .ge 22, 3) := by decide +kernel
theorem dX2_membersOf_12 : decode cX2_membersOf 12 = .ok (.aload_n 0, 1) := by decide +kernel
theorem dX2_membersOf_13 : decode cX2_membersOf 13 = .ok (.getfield 15, 3) := by decide +kernel
theorem dX2_membersOf_16 : decode cX2_membersOf 16 = .ok (.iload_n 3, 1) := by decide +kernel
theorem dX2_membersOf_17 : decode cX2_membersOf 17 = .ok (.iaload, 1) := by decide +kernel
theorem dX2_membersOf_18 : decode cX2_membersOf 18 = .ok (.iload_n 1, 1) := by decide +kernel
theorem dX2_membersOf_19 : decode cX2_membersOf 19 = .ok (.if_icmp .ne 6, 3) := by decide +kernel
theorem dX2_membersOf_22 : decode cX2_membersOf 22 = .ok (.iinc 2 1, 3) := by decide +kernel
theorem dX2_membersOf_25 : decode cX2_membersOf 25 = .ok (.iinc 3 1, 3) := by decide +kernel
theorem dX2_membersOf_28 : decode cX2_membersOf 28 = .ok (.goto (-24), 3) := by decide +kernel
theorem dX2_membersOf_31 : decode cX2_membersOf 31 = .ok (.iload_n 2, 1) := by decide +kernel
theorem dX2_membersOf_32 : decode cX2_membersOf 32 = .ok (.ireturn, 1) := by decide +kernel
theorem dX2_greatest_0 : decode cX2_greatest 0 = .ok (.bipush (-4), 2) := by decide +kernel
theorem dX2_greatest_2 : decode cX2_greatest 2 = .ok (.istore_n 1, 1) := by decide +kernel
theorem dX2_greatest_3 : decode cX2_greatest 3 = .ok (.iconst 0, 1) := by decide +kernel
theorem dX2_greatest_4 : decode cX2_greatest 4 = .ok (.istore_n 2, 1) := by decide +kernel
theorem dX2_greatest_5 : decode cX2_greatest 5 = .ok (.iconst 0, 1) := by decide +kernel
theorem dX2_greatest_6 : decode cX2_greatest 6 = .ok (.istore_n 3, 1) := by decide +kernel
theorem dX2_greatest_7 : decode cX2_greatest 7 = .ok (.iload_n 3, 1) := by decide +kernel
theorem dX2_greatest_8 : decode cX2_greatest 8 = .ok (.aload_n 0, 1) := by decide +kernel
theorem dX2_greatest_9 : decode cX2_greatest 9 = .ok (.getfield 25, 3) := by decide +kernel
theorem dX2_greatest_12 : decode cX2_greatest 12 = .ok (.if_icmp .ge 27, 3) := by decide +kernel
theorem dX2_greatest_15 : decode cX2_greatest 15 = .ok (.aload_n 0, 1) := by decide +kernel
theorem dX2_greatest_16 : decode cX2_greatest 16 = .ok (.iload_n 3, 1) := by decide +kernel
theorem dX2_greatest_17 : decode cX2_greatest 17 = .ok (.invokevirtual 36, 3) := by decide +kernel
theorem dX2_greatest_20 : decode cX2_greatest 20 = .ok (.istore 4, 2) := by decide +kernel
theorem dX2_greatest_22 : decode cX2_greatest 22 = .ok (.iload 4, 2) := by decide +kernel
theorem dX2_greatest_24 : decode cX2_greatest 24 = .ok (.iload_n 2, 1) := by decide +kernel
theorem dX2_greatest_25 : decode cX2_greatest 25 = .ok (.if_icmp .le 8, 3) := by decide +kernel
theorem dX2_greatest_28 : decode cX2_greatest 28 = .ok (.iload 4, 2) := by decide +kernel
theorem dX2_greatest_30 : decode cX2_greatest 30 = .ok (.istore_n 2, 1) := by decide +kernel
theorem dX2_greatest_31 : decode cX2_greatest 31 = .ok (.iload_n 3, 1) := by decide +kernel
theorem dX2_greatest_32 : decode cX2_greatest 32 = .ok (.istore_n 1, 1) := by decide +kernel
theorem dX2_greatest_33 : decode cX2_greatest 33 = .ok (.iinc 3 1, 3) := by decide +kernel
theorem dX2_greatest_36 : decode cX2_greatest 36 = .ok (.goto (-29), 3) := by decide +kernel
theorem dX2_greatest_39 : decode cX2_greatest 39 = .ok (.iload_n 1, 1) := by decide +kernel
theorem dX2_greatest_40 : decode cX2_greatest 40 = .ok (.ireturn, 1) := by decide +kernel
theorem dX2_leastLimit_0 : decode cX2_leastLimit 0 = .ok (.iconst 0, 1) := by decide +kernel
theorem dX2_leastLimit_1 : decode cX2_leastLimit 1 = .ok (.istore_n 1, 1) := by decide +kernel
theorem dX2_leastLimit_2 : decode cX2_leastLimit 2 = .ok (.iload_n 1, 1) := by decide +kernel
theorem dX2_leastLimit_3 : decode cX2_leastLimit 3 = .ok (.bipush 12, 2) := by decide +kernel
theorem dX2_leastLimit_5 : decode cX2_leastLimit 5 = .ok (.if_icmp .ge 31, 3) := by decide +kernel
theorem dX2_leastLimit_8 : decode cX2_leastLimit 8 = .ok (.aload_n 0, 1) := by decide +kernel
theorem dX2_leastLimit_9 : decode cX2_leastLimit 9 = .ok (.iload_n 1, 1) := by decide +kernel
theorem dX2_leastLimit_10 : decode cX2_leastLimit 10 = .ok (.aload_n 0, 1) := by decide +kernel
theorem dX2_leastLimit_11 : decode cX2_leastLimit 11 = .ok (.getfield 18, 3) := by decide +kernel
theorem dX2_leastLimit_14 : decode cX2_leastLimit 14 = .ok (.invokevirtual 28, 3) := by decide +kernel
theorem dX2_leastLimit_17 : decode cX2_leastLimit 17 = .ok (.aload_n 0, 1) := by decide +kernel
theorem dX2_leastLimit_18 : decode cX2_leastLimit 18 = .ok (.aload_n 0, 1) := by decide +kernel
theorem dX2_leastLimit_19 : decode cX2_leastLimit 19 = .ok (.getfield 18, 3) := by decide +kernel
theorem dX2_leastLimit_22 : decode cX2_leastLimit 22 = .ok (.invokevirtual 40, 3) := by decide +kernel
theorem dX2_leastLimit_25 : decode cX2_leastLimit 25 = .ok (.ifCond .eq 5, 3) := by decide +kernel
theorem dX2_leastLimit_28 : decode cX2_leastLimit 28 = .ok (.iload_n 1, 1) := by decide +kernel
theorem dX2_leastLimit_29 : decode cX2_leastLimit 29 = .ok (.ireturn, 1) := by decide +kernel
theorem dX2_leastLimit_30 : decode cX2_leastLimit 30 = .ok (.iinc 1 1, 3) := by decide +kernel
theorem dX2_leastLimit_33 : decode cX2_leastLimit 33 = .ok (.goto (-31), 3) := by decide +kernel
theorem dX2_leastLimit_36 : decode cX2_leastLimit 36 = .ok (.bipush 12, 2) := by decide +kernel
theorem dX2_leastLimit_38 : decode cX2_leastLimit 38 = .ok (.ireturn, 1) := by decide +kernel
theorem dX2_isOneGroup_0 : decode cX2_isOneGroup 0 = .ok (.iconst 0, 1) := by decide +kernel
theorem dX2_isOneGroup_1 : decode cX2_isOneGroup 1 = .ok (.istore_n 2, 1) := by decide +kernel
theorem dX2_isOneGroup_2 : decode cX2_isOneGroup 2 = .ok (.iload_n 2, 1) := by decide +kernel
theorem dX2_isOneGroup_3 : decode cX2_isOneGroup 3 = .ok (.aload_n 0, 1) := by decide +kernel
theorem dX2_isOneGroup_4 : decode cX2_isOneGroup 4 = .ok (.getfield 25, 3) := by decide +kernel
theorem dX2_isOneGroup_7 : decode cX2_isOneGroup 7 = .ok (.if_icmp .ge 17, 3) := by decide +kernel
theorem dX2_isOneGroup_10 : decode cX2_isOneGroup 10 = .ok (.aload_n 1, 1) := by decide +kernel
theorem dX2_isOneGroup_11 : decode cX2_isOneGroup 11 = .ok (.iload_n 2, 1) := by decide +kernel
theorem dX2_isOneGroup_12 : decode cX2_isOneGroup 12 = .ok (.iaload, 1) := by decide +kernel
theorem dX2_isOneGroup_13 : decode cX2_isOneGroup 13 = .ok (.ifCond .eq 5, 3) := by decide +kernel
theorem dX2_isOneGroup_16 : decode cX2_isOneGroup 16 = .ok (.iconst 0, 1) := by decide +kernel
theorem dX2_isOneGroup_17 : decode cX2_isOneGroup 17 = .ok (.ireturn, 1) := by decide +kernel
theorem dX2_isOneGroup_18 : decode cX2_isOneGroup 18 = .ok (.iinc 2 1, 3) := by decide +kernel
theorem dX2_isOneGroup_21 : decode cX2_isOneGroup 21 = .ok (.goto (-19), 3) := by decide +kernel
theorem dX2_isOneGroup_24 : decode cX2_isOneGroup 24 = .ok (.iconst 1, 1) := by decide +kernel
theorem dX2_isOneGroup_25 : decode cX2_isOneGroup 25 = .ok (.ireturn, 1) := by decide +kernel
theorem dX2_group_0 : decode cX2_group 0 = .ok (.iconst 0, 1) := by decide +kernel
theorem dX2_group_1 : decode cX2_group 1 = .ok (.istore_n 3, 1) := by decide +kernel
theorem dX2_group_2 : decode cX2_group 2 = .ok (.iload_n 3, 1) := by decide +kernel
theorem dX2_group_3 : decode cX2_group 3 = .ok (.aload_n 0, 1) := by decide +kernel
theorem dX2_group_4 : decode cX2_group 4 = .ok (.getfield 25, 3) := by decide +kernel
theorem dX2_group_7 : decode cX2_group 7 = .ok (.if_icmp .ge 56, 3) := by decide +kernel
theorem dX2_group_10 : decode cX2_group 10 = .ok (.aload_n 2, 1) := by decide +kernel
theorem dX2_group_11 : decode cX2_group 11 = .ok (.iload_n 3, 1) := by decide +kernel
theorem dX2_group_12 : decode cX2_group 12 = .ok (.iload_n 3, 1) := by decide +kernel
theorem dX2_group_13 : decode cX2_group 13 = .ok (.iastore, 1) := by decide +kernel
theorem dX2_group_14 : decode cX2_group 14 = .ok (.iconst 0, 1) := by decide +kernel
theorem dX2_group_15 : decode cX2_group 15 = .ok (.istore 4, 2) := by decide +kernel
theorem dX2_group_17 : decode cX2_group 17 = .ok (.iload 4, 2) := by decide +kernel
theorem dX2_group_19 : decode cX2_group 19 = .ok (.iload_n 3, 1) := by decide +kernel
theorem dX2_group_20 : decode cX2_group 20 = .ok (.if_icmp .ge 37, 3) := by decide +kernel
theorem dX2_group_23 : decode cX2_group 23 = .ok (.aload_n 0, 1) := by decide +kernel
theorem dX2_group_24 : decode cX2_group 24 = .ok (.getfield 11, 3) := by decide +kernel
theorem dX2_group_27 : decode cX2_group 27 = .ok (.iload_n 3, 1) := by decide +kernel
theorem dX2_group_28 : decode cX2_group 28 = .ok (.iaload, 1) := by decide +kernel
theorem dX2_group_29 : decode cX2_group 29 = .ok (.aload_n 0, 1) := by decide +kernel
theorem dX2_group_30 : decode cX2_group 30 = .ok (.getfield 11, 3) := by decide +kernel
theorem dX2_group_33 : decode cX2_group 33 = .ok (.iload 4, 2) := by decide +kernel
theorem dX2_group_35 : decode cX2_group 35 = .ok (.iaload, 1) := by decide +kernel
theorem dX2_group_36 : decode cX2_group 36 = .ok (.ixor, 1) := by decide +kernel
theorem dX2_group_37 : decode cX2_group 37 = .ok (.invokestatic 44, 3) := by decide +kernel
theorem dX2_group_40 : decode cX2_group 40 = .ok (.iload_n 1, 1) := by decide +kernel
theorem dX2_group_41 : decode cX2_group 41 = .ok (.if_icmp .gt 10, 3) := by decide +kernel
theorem dX2_group_44 : decode cX2_group 44 = .ok (.aload_n 2, 1) := by decide +kernel
theorem dX2_group_45 : decode cX2_group 45 = .ok (.iload_n 3, 1) := by decide +kernel
theorem dX2_group_46 : decode cX2_group 46 = .ok (.iload 4, 2) := by decide +kernel
theorem dX2_group_48 : decode cX2_group 48 = .ok (.invokestatic 49, 3) := by decide +kernel
theorem dX2_group_51 : decode cX2_group 51 = .ok (.iinc 4 1, 3) := by decide +kernel
theorem dX2_group_54 : decode cX2_group 54 = .ok (.goto (-37), 3) := by decide +kernel
theorem dX2_group_57 : decode cX2_group 57 = .ok (.iinc 3 1, 3) := by decide +kernel
theorem dX2_group_60 : decode cX2_group 60 = .ok (.goto (-58), 3) := by decide +kernel
theorem dX2_group_63 : decode cX2_group 63 = .ok (.return_, 1) := by decide +kernel
theorem dX2_join_0 : decode cX2_join 0 = .ok (.aload_n 0, 1) := by decide +kernel
theorem dX2_join_1 : decode cX2_join 1 = .ok (.iload_n 1, 1) := by decide +kernel
theorem dX2_join_2 : decode cX2_join 2 = .ok (.iaload, 1) := by decide +kernel
theorem dX2_join_3 : decode cX2_join 3 = .ok (.aload_n 0, 1) := by decide +kernel
theorem dX2_join_4 : decode cX2_join 4 = .ok (.iload_n 2, 1) := by decide +kernel
theorem dX2_join_5 : decode cX2_join 5 = .ok (.iaload, 1) := by decide +kernel
theorem dX2_join_6 : decode cX2_join 6 = .ok (.invokestatic 53, 3) := by decide +kernel
theorem dX2_join_9 : decode cX2_join 9 = .ok (.istore_n 3, 1) := by decide +kernel
theorem dX2_join_10 : decode cX2_join 10 = .ok (.aload_n 0, 1) := by decide +kernel
theorem dX2_join_11 : decode cX2_join 11 = .ok (.iload_n 1, 1) := by decide +kernel
theorem dX2_join_12 : decode cX2_join 12 = .ok (.iaload, 1) := by decide +kernel
theorem dX2_join_13 : decode cX2_join 13 = .ok (.aload_n 0, 1) := by decide +kernel
theorem dX2_join_14 : decode cX2_join 14 = .ok (.iload_n 2, 1) := by decide +kernel
theorem dX2_join_15 : decode cX2_join 15 = .ok (.iaload, 1) := by decide +kernel
theorem dX2_join_16 : decode cX2_join 16 = .ok (.invokestatic 59, 3) := by decide +kernel
theorem dX2_join_19 : decode cX2_join 19 = .ok (.istore 4, 2) := by decide +kernel
theorem dX2_join_21 : decode cX2_join 21 = .ok (.iconst 0, 1) := by decide +kernel
theorem dX2_join_22 : decode cX2_join 22 = .ok (.istore 5, 2) := by decide +kernel
theorem dX2_join_24 : decode cX2_join 24 = .ok (.iload 5, 2) := by decide +kernel
theorem dX2_join_26 : decode cX2_join 26 = .ok (.iload_n 1, 1) := by decide +kernel
theorem dX2_join_27 : decode cX2_join 27 = .ok (.if_icmp .gt 23, 3) := by decide +kernel
theorem dX2_join_30 : decode cX2_join 30 = .ok (.aload_n 0, 1) := by decide +kernel
theorem dX2_join_31 : decode cX2_join 31 = .ok (.iload 5, 2) := by decide +kernel
theorem dX2_join_33 : decode cX2_join 33 = .ok (.iaload, 1) := by decide +kernel
theorem dX2_join_34 : decode cX2_join 34 = .ok (.iload 4, 2) := by decide +kernel
theorem dX2_join_36 : decode cX2_join 36 = .ok (.if_icmp .ne 8, 3) := by decide +kernel
theorem dX2_join_39 : decode cX2_join 39 = .ok (.aload_n 0, 1) := by decide +kernel
theorem dX2_join_40 : decode cX2_join 40 = .ok (.iload 5, 2) := by decide +kernel
theorem dX2_join_42 : decode cX2_join 42 = .ok (.iload_n 3, 1) := by decide +kernel
theorem dX2_join_43 : decode cX2_join 43 = .ok (.iastore, 1) := by decide +kernel
theorem dX2_join_44 : decode cX2_join 44 = .ok (.iinc 5 1, 3) := by decide +kernel
theorem dX2_join_47 : decode cX2_join 47 = .ok (.goto (-23), 3) := by decide +kernel
theorem dX2_join_50 : decode cX2_join 50 = .ok (.return_, 1) := by decide +kernel
theorem dX3_init_0 : decode cX3_init 0 = .ok (.aload_n 0, 1) := by decide +kernel
theorem dX3_init_1 : decode cX3_init 1 = .ok (.invokespecial 3, 3) := by decide +kernel
theorem dX3_init_4 : decode cX3_init 4 = .ok (.aload_n 0, 1) := by decide +kernel
theorem dX3_init_5 : decode cX3_init 5 = .ok (.bipush 24, 2) := by decide +kernel
theorem dX3_init_7 : decode cX3_init 7 = .ok (.bipush 24, 2) := by decide +kernel
theorem dX3_init_9 : decode cX3_init 9 = .ok (.multianewarray 11 2, 4) := by decide +kernel
theorem dX3_init_13 : decode cX3_init 13 = .ok (.putfield 13, 3) := by decide +kernel
theorem dX3_init_16 : decode cX3_init 16 = .ok (.aload_n 0, 1) := by decide +kernel
theorem dX3_init_17 : decode cX3_init 17 = .ok (.bipush 24, 2) := by decide +kernel
theorem dX3_init_19 : decode cX3_init 19 = .ok (.bipush 24, 2) := by decide +kernel
theorem dX3_init_21 : decode cX3_init 21 = .ok (.multianewarray 11 2, 4) := by decide +kernel
theorem dX3_init_25 : decode cX3_init 25 = .ok (.putfield 18, 3) := by decide +kernel
theorem dX3_init_28 : decode cX3_init 28 = .ok (.aload_n 0, 1) := by decide +kernel
theorem dX3_init_29 : decode cX3_init 29 = .ok (.bipush 24, 2) := by decide +kernel
theorem dX3_init_31 : decode cX3_init 31 = .ok (.bipush 24, 2) := by decide +kernel
theorem dX3_init_33 : decode cX3_init 33 = .ok (.multianewarray 11 2, 4) := by decide +kernel
theorem dX3_init_37 : decode cX3_init 37 = .ok (.putfield 21, 3) := by decide +kernel
theorem dX3_init_40 : decode cX3_init 40 = .ok (.aload_n 0, 1) := by decide +kernel
theorem dX3_init_41 : decode cX3_init 41 = .ok (.bipush 96, 2) := by decide +kernel
theorem dX3_init_43 : decode cX3_init 43 = .ok (.newarray .int, 2) := by decide +kernel
theorem dX3_init_45 : decode cX3_init 45 = .ok (.putfield 26, 3) := by decide +kernel
theorem dX3_init_48 : decode cX3_init 48 = .ok (.aload_n 0, 1) := by decide +kernel
theorem dX3_init_49 : decode cX3_init 49 = .ok (.bipush 8, 2) := by decide +kernel
theorem dX3_init_51 : decode cX3_init 51 = .ok (.newarray .int, 2) := by decide +kernel
theorem dX3_init_53 : decode cX3_init 53 = .ok (.putfield 30, 3) := by decide +kernel
theorem dX3_init_56 : decode cX3_init 56 = .ok (.aload_n 0, 1) := by decide +kernel
theorem dX3_init_57 : decode cX3_init 57 = .ok (.bipush 8, 2) := by decide +kernel
theorem dX3_init_59 : decode cX3_init 59 = .ok (.newarray .int, 2) := by decide +kernel
theorem dX3_init_61 : decode cX3_init 61 = .ok (.putfield 33, 3) := by decide +kernel
theorem dX3_init_64 : decode cX3_init 64 = .ok (.aload_n 0, 1) := by decide +kernel
theorem dX3_init_65 : decode cX3_init 65 = .ok (.bipush 8, 2) := by decide +kernel
theorem dX3_init_67 : decode cX3_init 67 = .ok (.newarray .int, 2) := by decide +kernel
theorem dX3_init_69 : decode cX3_init 69 = .ok (.putfield 36, 3) := by decide +kernel
theorem dX3_init_72 : decode cX3_init 72 = .ok (.aload_n 0, 1) := by decide +kernel
theorem dX3_init_73 : decode cX3_init 73 = .ok (.aload_n 1, 1) := by decide +kernel
theorem dX3_init_74 : decode cX3_init 74 = .ok (.putfield 39, 3) := by decide +kernel
theorem dX3_init_77 : decode cX3_init 77 = .ok (.aload_n 0, 1) := by decide +kernel
theorem dX3_init_78 : decode cX3_init 78 = .ok (.aload_n 2, 1) := by decide +kernel
theorem dX3_init_79 : decode cX3_init 79 = .ok (.putfield 43, 3) := by decide +kernel
theorem dX3_init_82 : decode cX3_init 82 = .ok (.return_, 1) := by decide +kernel
theorem dX3_tellApart_0 : decode cX3_tellApart 0 = .ok (.aload_n 0, 1) := by decide +kernel
theorem dX3_tellApart_1 : decode cX3_tellApart 1 = .ok (.getfield 39, 3) := by decide +kernel
theorem dX3_tellApart_4 : decode cX3_tellApart 4 = .ok (.iload_n 1, 1) := by decide +kernel
theorem dX3_tellApart_5 : decode cX3_tellApart 5 = .ok (.invokevirtual 47, 3) := by decide +kernel
theorem dX3_tellApart_8 : decode cX3_tellApart 8 = .ok (.ifCond .eq 29, 3) := by decide +kernel
theorem dX3_tellApart_11 : decode cX3_tellApart 11 = .ok (.aload_n 0, 1) := by decide +kernel
theorem dX3_tellApart_12 : decode cX3_tellApart 12 = .ok (.getfield 39, 3) := by decide +kernel
theorem dX3_tellApart_15 : decode cX3_tellApart 15 = .ok (.iload_n 2, 1) := by decide +kernel
theorem dX3_tellApart_16 : decode cX3_tellApart 16 = .ok (.invokevirtual 47, 3) := by decide +kernel
theorem dX3_tellApart_19 : decode cX3_tellApart 19 = .ok (.ifCond .eq 18, 3) := by decide +kernel
theorem dX3_tellApart_22 : decode cX3_tellApart 22 = .ok (.iload_n 1, 1) := by decide +kernel
theorem dX3_tellApart_23 : decode cX3_tellApart 23 = .ok (.iload_n 2, 1) := by decide +kernel
theorem dX3_tellApart_24 : decode cX3_tellApart 24 = .ok (.if_icmp .eq 13, 3) := by decide +kernel
theorem dX3_tellApart_27 : decode cX3_tellApart 27 = .ok (.iload_n 3, 1) := by decide +kernel
theorem dX3_tellApart_28 : decode cX3_tellApart 28 = .ok (.ifCond .lt 9, 3) := by decide +kernel
theorem dX3_tellApart_31 : decode cX3_tellApart 31 = .ok (.iload_n 3, 1) := by decide +kernel
theorem dX3_tellApart_32 : decode cX3_tellApart 32 = .ok (.bipush 9, 2) := by decide +kernel
theorem dX3_tellApart_34 : decode cX3_tellApart 34 = .ok (.if_icmp .le 5, 3) := by decide +kernel
theorem dX3_tellApart_37 : decode cX3_tellApart 37 = .ok (.iconst (-1), 1) := by decide +kernel
theorem dX3_tellApart_38 : decode cX3_tellApart 38 = .ok (.ireturn, 1) := by decide +kernel
theorem dX3_tellApart_39 : decode cX3_tellApart 39 = .ok (.aload_n 0, 1) := by decide +kernel
theorem dX3_tellApart_40 : decode cX3_tellApart 40 = .ok (.getfield 13, 3) := by decide +kernel
theorem dX3_tellApart_43 : decode cX3_tellApart 43 = .ok (.iload_n 1, 1) := by decide +kernel
theorem dX3_tellApart_44 : decode cX3_tellApart 44 = .ok (.aaload, 1) := by decide +kernel
theorem dX3_tellApart_45 : decode cX3_tellApart 45 = .ok (.iload_n 2, 1) := by decide +kernel
theorem dX3_tellApart_46 : decode cX3_tellApart 46 = .ok (.iaload, 1) := by decide +kernel
theorem dX3_tellApart_47 : decode cX3_tellApart 47 = .ok (.istore 4, 2) := by decide +kernel
theorem dX3_tellApart_49 : decode cX3_tellApart 49 = .ok (.aload_n 0, 1) := by decide +kernel
theorem dX3_tellApart_50 : decode cX3_tellApart 50 = .ok (.getfield 13, 3) := by decide +kernel
theorem dX3_tellApart_53 : decode cX3_tellApart 53 = .ok (.iload_n 1, 1) := by decide +kernel
theorem dX3_tellApart_54 : decode cX3_tellApart 54 = .ok (.aaload, 1) := by decide +kernel
theorem dX3_tellApart_55 : decode cX3_tellApart 55 = .ok (.iload_n 2, 1) := by decide +kernel
theorem dX3_tellApart_56 : decode cX3_tellApart 56 = .ok (.iload_n 3, 1) := by decide +kernel
theorem dX3_tellApart_57 : decode cX3_tellApart 57 = .ok (.iastore, 1) := by decide +kernel
theorem dX3_tellApart_58 : decode cX3_tellApart 58 = .ok (.aload_n 0, 1) := by decide +kernel
theorem dX3_tellApart_59 : decode cX3_tellApart 59 = .ok (.getfield 13, 3) := by decide +kernel
theorem dX3_tellApart_62 : decode cX3_tellApart 62 = .ok (.iload_n 2, 1) := by decide +kernel
theorem dX3_tellApart_63 : decode cX3_tellApart 63 = .ok (.aaload, 1) := by decide +kernel
theorem dX3_tellApart_64 : decode cX3_tellApart 64 = .ok (.iload_n 1, 1) := by decide +kernel
theorem dX3_tellApart_65 : decode cX3_tellApart 65 = .ok (.iload_n 3, 1) := by decide +kernel
theorem dX3_tellApart_66 : decode cX3_tellApart 66 = .ok (.iastore, 1) := by decide +kernel
theorem dX3_tellApart_67 : decode cX3_tellApart 67 = .ok (.iload 4, 2) := by decide +kernel
theorem dX3_tellApart_69 : decode cX3_tellApart 69 = .ok (.ireturn, 1) := by decide +kernel
theorem dX3_akinOf_0 : decode cX3_akinOf 0 = .ok (.aload_n 0, 1) := by decide +kernel
theorem dX3_akinOf_1 : decode cX3_akinOf 1 = .ok (.invokevirtual 51, 3) := by decide +kernel
theorem dX3_akinOf_4 : decode cX3_akinOf 4 = .ok (.aload_n 0, 1) := by decide +kernel
theorem dX3_akinOf_5 : decode cX3_akinOf 5 = .ok (.iload_n 1, 1) := by decide +kernel
theorem dX3_akinOf_6 : decode cX3_akinOf 6 = .ok (.iload_n 2, 1) := by decide +kernel
theorem dX3_akinOf_7 : decode cX3_akinOf 7 = .ok (.invokevirtual 54, 3) := by decide +kernel
theorem dX3_akinOf_10 : decode cX3_akinOf 10 = .ok (.ireturn, 1) := by decide +kernel
theorem dX3_tell_0 : decode cX3_tell 0 = .ok (.aload_n 0, 1) := by decide +kernel
theorem dX3_tell_1 : decode cX3_tell 1 = .ok (.invokevirtual 51, 3) := by decide +kernel
theorem dX3_tell_4 : decode cX3_tell 4 = .ok (.aload_n 0, 1) := by decide +kernel
theorem dX3_tell_5 : decode cX3_tell 5 = .ok (.invokevirtual 58, 3) := by decide +kernel
theorem dX3_tell_8 : decode cX3_tell 8 = .ok (.aload_n 0, 1) := by decide +kernel
theorem dX3_tell_9 : decode cX3_tell 9 = .ok (.invokevirtual 61, 3) := by decide +kernel
theorem dX3_tell_12 : decode cX3_tell 12 = .ok (.aload_n 0, 1) := by decide +kernel
theorem dX3_tell_13 : decode cX3_tell 13 = .ok (.invokevirtual 64, 3) := by decide +kernel
theorem dX3_tell_16 : decode cX3_tell 16 = .ok (.aload_n 0, 1) := by decide +kernel
theorem dX3_tell_17 : decode cX3_tell 17 = .ok (.ldc 67, 2) := by decide +kernel
theorem dX3_tell_19 : decode cX3_tell 19 = .ok (.putfield 68, 3) := by decide +kernel
theorem dX3_tell_22 : decode cX3_tell 22 = .ok (.aload_n 0, 1) := by decide +kernel
theorem dX3_tell_23 : decode cX3_tell 23 = .ok (.iload_n 1, 1) := by decide +kernel
theorem dX3_tell_24 : decode cX3_tell 24 = .ok (.iconst 0, 1) := by decide +kernel
theorem dX3_tell_25 : decode cX3_tell 25 = .ok (.iconst 0, 1) := by decide +kernel
theorem dX3_tell_26 : decode cX3_tell 26 = .ok (.invokestatic 72, 3) := by decide +kernel
theorem dX3_tell_29 : decode cX3_tell 29 = .ok (.iload_n 2, 1) := by decide +kernel
theorem dX3_tell_30 : decode cX3_tell 30 = .ok (.ifCond .ne 8, 3) := by decide +kernel
theorem dX3_tell_33 : decode cX3_tell 33 = .ok (.aload_n 0, 1) := by decide +kernel
theorem dX3_tell_34 : decode cX3_tell 34 = .ok (.getfield 68, 3) := by decide +kernel
theorem dX3_tell_37 : decode cX3_tell 37 = .ok (.ireturn, 1) := by decide +kernel
theorem dX3_tell_38 : decode cX3_tell 38 = .ok (.iload_n 2, 1) := by decide +kernel
theorem dX3_tell_39 : decode cX3_tell 39 = .ok (.iconst 1, 1) := by decide +kernel
theorem dX3_tell_40 : decode cX3_tell 40 = .ok (.if_icmp .ne 8, 3) := by decide +kernel
theorem dX3_tell_43 : decode cX3_tell 43 = .ok (.aload_n 0, 1) := by decide +kernel
theorem dX3_tell_44 : decode cX3_tell 44 = .ok (.getfield 76, 3) := by decide +kernel
theorem dX3_tell_47 : decode cX3_tell 47 = .ok (.ireturn, 1) := by decide +kernel
theorem dX3_tell_48 : decode cX3_tell 48 = .ok (.iload_n 2, 1) := by decide +kernel
theorem dX3_tell_49 : decode cX3_tell 49 = .ok (.bipush 10, 2) := by decide +kernel
theorem dX3_tell_51 : decode cX3_tell 51 = .ok (.if_icmp .lt 24, 3) := by decide +kernel
theorem dX3_tell_54 : decode cX3_tell 54 = .ok (.iload_n 2, 1) := by decide +kernel
theorem dX3_tell_55 : decode cX3_tell 55 = .ok (.bipush 10, 2) := by decide +kernel
theorem dX3_tell_57 : decode cX3_tell 57 = .ok (.aload_n 0, 1) := by decide +kernel
theorem dX3_tell_58 : decode cX3_tell 58 = .ok (.getfield 76, 3) := by decide +kernel
theorem dX3_tell_61 : decode cX3_tell 61 = .ok (.iadd, 1) := by decide +kernel
theorem dX3_tell_62 : decode cX3_tell 62 = .ok (.if_icmp .ge 13, 3) := by decide +kernel
theorem dX3_tell_65 : decode cX3_tell 65 = .ok (.aload_n 0, 1) := by decide +kernel
theorem dX3_tell_66 : decode cX3_tell 66 = .ok (.getfield 30, 3) := by decide +kernel
theorem dX3_tell_69 : decode cX3_tell 69 = .ok (.iload_n 2, 1) := by decide +kernel
theorem dX3_tell_70 : decode cX3_tell 70 = .ok (.bipush 10, 2) := by decide +kernel
theorem dX3_tell_72 : decode cX3_tell 72 = .ok (.isub, 1) := by decide +kernel
theorem dX3_tell_73 : decode cX3_tell 73 = .ok (.iaload, 1) := by decide +kernel
theorem dX3_tell_74 : decode cX3_tell 74 = .ok (.ireturn, 1) := by decide +kernel
theorem dX3_tell_75 : decode cX3_tell 75 = .ok (.iload_n 2, 1) := by decide +kernel
theorem dX3_tell_76 : decode cX3_tell 76 = .ok (.bipush 30, 2) := by decide +kernel
theorem dX3_tell_78 : decode cX3_tell 78 = .ok (.if_icmp .lt 24, 3) := by decide +kernel
theorem dX3_tell_81 : decode cX3_tell 81 = .ok (.iload_n 2, 1) := by decide +kernel
theorem dX3_tell_82 : decode cX3_tell 82 = .ok (.bipush 30, 2) := by decide +kernel
theorem dX3_tell_84 : decode cX3_tell 84 = .ok (.aload_n 0, 1) := by decide +kernel
theorem dX3_tell_85 : decode cX3_tell 85 = .ok (.getfield 76, 3) := by decide +kernel
theorem dX3_tell_88 : decode cX3_tell 88 = .ok (.iadd, 1) := by decide +kernel
theorem dX3_tell_89 : decode cX3_tell 89 = .ok (.if_icmp .ge 13, 3) := by decide +kernel
theorem dX3_tell_92 : decode cX3_tell 92 = .ok (.aload_n 0, 1) := by decide +kernel
theorem dX3_tell_93 : decode cX3_tell 93 = .ok (.getfield 36, 3) := by decide +kernel
theorem dX3_tell_96 : decode cX3_tell 96 = .ok (.iload_n 2, 1) := by decide +kernel
theorem dX3_tell_97 : decode cX3_tell 97 = .ok (.bipush 30, 2) := by decide +kernel
theorem dX3_tell_99 : decode cX3_tell 99 = .ok (.isub, 1) := by decide +kernel
theorem dX3_tell_100 : decode cX3_tell 100 = .ok (.iaload, 1) := by decide +kernel
theorem dX3_tell_101 : decode cX3_tell 101 = .ok (.ireturn, 1) := by decide +kernel
theorem dX3_tell_102 : decode cX3_tell 102 = .ok (.iconst (-1), 1) := by decide +kernel
theorem dX3_tell_103 : decode cX3_tell 103 = .ok (.ireturn, 1) := by decide +kernel
theorem dX3_gatherEndings_0 : decode cX3_gatherEndings 0 = .ok (.iconst 0, 1) := by decide +kernel
theorem dX3_gatherEndings_1 : decode cX3_gatherEndings 1 = .ok (.istore_n 1, 1) := by decide +kernel
theorem dX3_gatherEndings_2 : decode cX3_gatherEndings 2 = .ok (.iload_n 1, 1) := by decide +kernel
theorem dX3_gatherEndings_3 : decode cX3_gatherEndings 3 = .ok (.bipush 96, 2) := by decide +kernel
theorem dX3_gatherEndings_5 : decode cX3_gatherEndings 5 = .ok (.if_icmp .ge 16, 3) := by decide +kernel
theorem dX3_gatherEndings_8 : decode cX3_gatherEndings 8 = .ok (.aload_n 0, 1) := by decide +kernel
theorem dX3_gatherEndings_9 : decode cX3_gatherEndings 9 = .ok (.getfield 26, 3) := by decide +kernel
theorem dX3_gatherEndings_12 : decode cX3_gatherEndings 12 = .ok (.iload_n 1, 1) := by decide +kernel
theorem dX3_gatherEndings_13 : decode cX3_gatherEndings 13 = .ok (.iconst 0, 1) := by decide +kernel
theorem dX3_gatherEndings_14 : decode cX3_gatherEndings 14 = .ok (.iastore, 1) := by decide +kernel
theorem dX3_gatherEndings_15 : decode cX3_gatherEndings 15 = .ok (.iinc 1 1, 3) := by decide +kernel
theorem dX3_gatherEndings_18 : decode cX3_gatherEndings 18 = .ok (.goto (-16), 3) := by decide +kernel
theorem dX3_gatherEndings_21 : decode cX3_gatherEndings 21 = .ok (.iconst 0, 1) := by decide +kernel
theorem dX3_gatherEndings_22 : decode cX3_gatherEndings 22 = .ok (.istore_n 1, 1) := by decide +kernel
theorem dX3_gatherEndings_23 : decode cX3_gatherEndings 23 = .ok (.iload_n 1, 1) := by decide +kernel
theorem dX3_gatherEndings_24 : decode cX3_gatherEndings 24 = .ok (.aload_n 0, 1) := by decide +kernel
theorem dX3_gatherEndings_25 : decode cX3_gatherEndings 25 = .ok (.getfield 43, 3) := by decide +kernel
theorem dX3_gatherEndings_28 : decode cX3_gatherEndings 28 = .ok (.invokevirtual 79, 3) := by decide +kernel
theorem dX3_gatherEndings_31 : decode cX3_gatherEndings 31 = .ok (.if_icmp .ge 50, 3) := by decide +kernel
theorem dX3_gatherEndings_34 : decode cX3_gatherEndings 34 = .ok (.aload_n 0, 1) := by decide +kernel
theorem dX3_gatherEndings_35 : decode cX3_gatherEndings 35 = .ok (.iload_n 1, 1) := by decide +kernel
theorem dX3_gatherEndings_36 : decode cX3_gatherEndings 36 = .ok (.invokevirtual 83, 3) := by decide +kernel
theorem dX3_gatherEndings_39 : decode cX3_gatherEndings 39 = .ok (.istore_n 2, 1) := by decide +kernel
theorem dX3_gatherEndings_40 : decode cX3_gatherEndings 40 = .ok (.aload_n 0, 1) := by decide +kernel
theorem dX3_gatherEndings_41 : decode cX3_gatherEndings 41 = .ok (.getfield 43, 3) := by decide +kernel
theorem dX3_gatherEndings_44 : decode cX3_gatherEndings 44 = .ok (.iload_n 1, 1) := by decide +kernel
theorem dX3_gatherEndings_45 : decode cX3_gatherEndings 45 = .ok (.invokevirtual 87, 3) := by decide +kernel
theorem dX3_gatherEndings_48 : decode cX3_gatherEndings 48 = .ok (.istore_n 3, 1) := by decide +kernel
theorem dX3_gatherEndings_49 : decode cX3_gatherEndings 49 = .ok (.iload_n 2, 1) := by decide +kernel
theorem dX3_gatherEndings_50 : decode cX3_gatherEndings 50 = .ok (.ifCond .lt 25, 3) := by decide +kernel
theorem dX3_gatherEndings_53 : decode cX3_gatherEndings 53 = .ok (.iload_n 3, 1) := by decide +kernel
theorem dX3_gatherEndings_54 : decode cX3_gatherEndings 54 = .ok (.ifCond .lt 21, 3) := by decide +kernel
theorem dX3_gatherEndings_57 : decode cX3_gatherEndings 57 = .ok (.iload_n 3, 1) := by decide +kernel
theorem dX3_gatherEndings_58 : decode cX3_gatherEndings 58 = .ok (.bipush 24, 2) := by decide +kernel
theorem dX3_gatherEndings_60 : decode cX3_gatherEndings 60 = .ok (.if_icmp .ge 15, 3) := by decide +kernel
theorem dX3_gatherEndings_63 : decode cX3_gatherEndings 63 = .ok (.aload_n 0, 1) := by decide +kernel
theorem dX3_gatherEndings_64 : decode cX3_gatherEndings 64 = .ok (.getfield 26, 3) := by decide +kernel
theorem dX3_gatherEndings_67 : decode cX3_gatherEndings 67 = .ok (.iload_n 2, 1) := by decide +kernel
theorem dX3_gatherEndings_68 : decode cX3_gatherEndings 68 = .ok (.dup2, 1) := by decide +kernel
theorem dX3_gatherEndings_69 : decode cX3_gatherEndings 69 = .ok (.iaload, 1) := by decide +kernel
theorem dX3_gatherEndings_70 : decode cX3_gatherEndings 70 = .ok (.iconst 1, 1) := by decide +kernel
theorem dX3_gatherEndings_71 : decode cX3_gatherEndings 71 = .ok (.iload_n 3, 1) := by decide +kernel
theorem dX3_gatherEndings_72 : decode cX3_gatherEndings 72 = .ok (.ishl, 1) := by decide +kernel
theorem dX3_gatherEndings_73 : decode cX3_gatherEndings 73 = .ok (.ior, 1) := by decide +kernel
theorem dX3_gatherEndings_74 : decode cX3_gatherEndings 74 = .ok (.iastore, 1) := by decide +kernel
theorem dX3_gatherEndings_75 : decode cX3_gatherEndings 75 = .ok (.iinc 1 1, 3) := by decide +kernel
theorem dX3_gatherEndings_78 : decode cX3_gatherEndings 78 = .ok (.goto (-55), 3) := by decide +kernel
theorem dX3_gatherEndings_81 : decode cX3_gatherEndings 81 = .ok (.return_, 1) := by decide +kernel
theorem dX3_firstOfStem_0 : decode cX3_firstOfStem 0 = .ok (.aload_n 0, 1) := by decide +kernel
theorem dX3_firstOfStem_1 : decode cX3_firstOfStem 1 = .ok (.getfield 43, 3) := by decide +kernel
theorem dX3_firstOfStem_4 : decode cX3_firstOfStem 4 = .ok (.iload_n 1, 1) := by decide +kernel
theorem dX3_firstOfStem_5 : decode cX3_firstOfStem 5 = .ok (.invokevirtual 90, 3) := by decide +kernel
theorem dX3_firstOfStem_8 : decode cX3_firstOfStem 8 = .ok (.ifCond .eq 15, 3) := by decide +kernel
theorem dX3_firstOfStem_11 : decode cX3_firstOfStem 11 = .ok (.aload_n 0, 1) := by decide +kernel
theorem dX3_firstOfStem_12 : decode cX3_firstOfStem 12 = .ok (.getfield 43, 3) := by decide +kernel
theorem dX3_firstOfStem_15 : decode cX3_firstOfStem 15 = .ok (.iload_n 1, 1) := by decide +kernel
theorem dX3_firstOfStem_16 : decode cX3_firstOfStem 16 = .ok (.invokevirtual 93, 3) := by decide +kernel
theorem dX3_firstOfStem_19 : decode cX3_firstOfStem 19 = .ok (.iconst 2, 1) := by decide +kernel
theorem dX3_firstOfStem_20 : decode cX3_firstOfStem 20 = .ok (.if_icmp .ge 6, 3) := by decide +kernel
theorem dX3_firstOfStem_23 : decode cX3_firstOfStem 23 = .ok (.bipush (-4), 2) := by decide +kernel
theorem dX3_firstOfStem_25 : decode cX3_firstOfStem 25 = .ok (.ireturn, 1) := by decide +kernel
theorem dX3_firstOfStem_26 : decode cX3_firstOfStem 26 = .ok (.iconst 0, 1) := by decide +kernel
theorem dX3_firstOfStem_27 : decode cX3_firstOfStem 27 = .ok (.istore_n 2, 1) := by decide +kernel
theorem dX3_firstOfStem_28 : decode cX3_firstOfStem 28 = .ok (.iload_n 2, 1) := by decide +kernel
theorem dX3_firstOfStem_29 : decode cX3_firstOfStem 29 = .ok (.iload_n 1, 1) := by decide +kernel
theorem dX3_firstOfStem_30 : decode cX3_firstOfStem 30 = .ok (.if_icmp .ge 34, 3) := by decide +kernel
theorem dX3_firstOfStem_33 : decode cX3_firstOfStem 33 = .ok (.aload_n 0, 1) := by decide +kernel
theorem dX3_firstOfStem_34 : decode cX3_firstOfStem 34 = .ok (.getfield 43, 3) := by decide +kernel
theorem dX3_firstOfStem_37 : decode cX3_firstOfStem 37 = .ok (.iload_n 2, 1) := by decide +kernel
theorem dX3_firstOfStem_38 : decode cX3_firstOfStem 38 = .ok (.invokevirtual 90, 3) := by decide +kernel
theorem dX3_firstOfStem_41 : decode cX3_firstOfStem 41 = .ok (.ifCond .eq 17, 3) := by decide +kernel
theorem dX3_firstOfStem_44 : decode cX3_firstOfStem 44 = .ok (.aload_n 0, 1) := by decide +kernel
theorem dX3_firstOfStem_45 : decode cX3_firstOfStem 45 = .ok (.getfield 43, 3) := by decide +kernel
theorem dX3_firstOfStem_48 : decode cX3_firstOfStem 48 = .ok (.iload_n 2, 1) := by decide +kernel
theorem dX3_firstOfStem_49 : decode cX3_firstOfStem 49 = .ok (.iload_n 1, 1) := by decide +kernel
theorem dX3_firstOfStem_50 : decode cX3_firstOfStem 50 = .ok (.invokevirtual 96, 3) := by decide +kernel
theorem dX3_firstOfStem_53 : decode cX3_firstOfStem 53 = .ok (.ifCond .eq 5, 3) := by decide +kernel
theorem dX3_firstOfStem_56 : decode cX3_firstOfStem 56 = .ok (.iload_n 2, 1) := by decide +kernel
theorem dX3_firstOfStem_57 : decode cX3_firstOfStem 57 = .ok (.ireturn, 1) := by decide +kernel
theorem dX3_firstOfStem_58 : decode cX3_firstOfStem 58 = .ok (.iinc 2 1, 3) := by decide +kernel
theorem dX3_firstOfStem_61 : decode cX3_firstOfStem 61 = .ok (.goto (-33), 3) := by decide +kernel
theorem dX3_firstOfStem_64 : decode cX3_firstOfStem 64 = .ok (.iload_n 1, 1) := by decide +kernel
theorem dX3_firstOfStem_65 : decode cX3_firstOfStem 65 = .ok (.ireturn, 1) := by decide +kernel
theorem dX3_stemsOfBoth_0 : decode cX3_stemsOfBoth 0 = .ok (.iconst 0, 1) := by decide +kernel
theorem dX3_stemsOfBoth_1 : decode cX3_stemsOfBoth 1 = .ok (.istore_n 3, 1) := by decide +kernel
theorem dX3_stemsOfBoth_2 : decode cX3_stemsOfBoth 2 = .ok (.iconst 0, 1) := by decide +kernel
theorem dX3_stemsOfBoth_3 : decode cX3_stemsOfBoth 3 = .ok (.istore 4, 2) := by decide +kernel
theorem dX3_stemsOfBoth_5 : decode cX3_stemsOfBoth 5 = .ok (.iload 4, 2) := by decide +kernel
theorem dX3_stemsOfBoth_7 : decode cX3_stemsOfBoth 7 = .ok (.bipush 96, 2) := by decide +kernel
theorem dX3_stemsOfBoth_9 : decode cX3_stemsOfBoth 9 = .ok (.if_icmp .ge 37, 3) := by decide +kernel
theorem dX3_stemsOfBoth_12 : decode cX3_stemsOfBoth 12 = .ok (.aload_n 0, 1) := by decide +kernel
theorem dX3_stemsOfBoth_13 : decode cX3_stemsOfBoth 13 = .ok (.getfield 26, 3) := by decide +kernel
theorem dX3_stemsOfBoth_16 : decode cX3_stemsOfBoth 16 = .ok (.iload 4, 2) := by decide +kernel
theorem dX3_stemsOfBoth_18 : decode cX3_stemsOfBoth 18 = .ok (.iaload, 1) := by decide +kernel
theorem dX3_stemsOfBoth_19 : decode cX3_stemsOfBoth 19 = .ok (.iload_n 1, 1) := by decide +kernel
theorem dX3_stemsOfBoth_20 : decode cX3_stemsOfBoth 20 = .ok (.ishr, 1) := by decide +kernel
theorem dX3_stemsOfBoth_21 : decode cX3_stemsOfBoth 21 = .ok (.aload_n 0, 1) := by decide +kernel
theorem dX3_stemsOfBoth_22 : decode cX3_stemsOfBoth 22 = .ok (.getfield 26, 3) := by decide +kernel
theorem dX3_stemsOfBoth_25 : decode cX3_stemsOfBoth 25 = .ok (.iload 4, 2) := by decide +kernel
theorem dX3_stemsOfBoth_27 : decode cX3_stemsOfBoth 27 = .ok (.iaload, 1) := by decide +kernel
theorem dX3_stemsOfBoth_28 : decode cX3_stemsOfBoth 28 = .ok (.iload_n 2, 1) := by decide +kernel
theorem dX3_stemsOfBoth_29 : decode cX3_stemsOfBoth 29 = .ok (.ishr, 1) := by decide +kernel
theorem dX3_stemsOfBoth_30 : decode cX3_stemsOfBoth 30 = .ok (.iand, 1) := by decide +kernel
theorem dX3_stemsOfBoth_31 : decode cX3_stemsOfBoth 31 = .ok (.iconst 1, 1) := by decide +kernel
theorem dX3_stemsOfBoth_32 : decode cX3_stemsOfBoth 32 = .ok (.iand, 1) := by decide +kernel
theorem dX3_stemsOfBoth_33 : decode cX3_stemsOfBoth 33 = .ok (.iconst 1, 1) := by decide +kernel
theorem dX3_stemsOfBoth_34 : decode cX3_stemsOfBoth 34 = .ok (.if_icmp .ne 6, 3) := by decide +kernel
theorem dX3_stemsOfBoth_37 : decode cX3_stemsOfBoth 37 = .ok (.iinc 3 1, 3) := by decide +kernel
theorem dX3_stemsOfBoth_40 : decode cX3_stemsOfBoth 40 = .ok (.iinc 4 1, 3) := by decide +kernel
theorem dX3_stemsOfBoth_43 : decode cX3_stemsOfBoth 43 = .ok (.goto (-38), 3) := by decide +kernel
theorem dX3_stemsOfBoth_46 : decode cX3_stemsOfBoth 46 = .ok (.iload_n 3, 1) := by decide +kernel
theorem dX3_stemsOfBoth_47 : decode cX3_stemsOfBoth 47 = .ok (.ireturn, 1) := by decide +kernel
theorem dX3_measureAkin_0 : decode cX3_measureAkin 0 = .ok (.iconst 0, 1) := by decide +kernel
theorem dX3_measureAkin_1 : decode cX3_measureAkin 1 = .ok (.istore_n 1, 1) := by decide +kernel
theorem dX3_measureAkin_2 : decode cX3_measureAkin 2 = .ok (.iload_n 1, 1) := by decide +kernel
theorem dX3_measureAkin_3 : decode cX3_measureAkin 3 = .ok (.bipush 24, 2) := by decide +kernel
theorem dX3_measureAkin_5 : decode cX3_measureAkin 5 = .ok (.if_icmp .ge 46, 3) := by decide +kernel
theorem dX3_measureAkin_8 : decode cX3_measureAkin 8 = .ok (.iconst 0, 1) := by decide +kernel
theorem dX3_measureAkin_9 : decode cX3_measureAkin 9 = .ok (.istore_n 2, 1) := by decide +kernel
theorem dX3_measureAkin_10 : decode cX3_measureAkin 10 = .ok (.iload_n 2, 1) := by decide +kernel
theorem dX3_measureAkin_11 : decode cX3_measureAkin 11 = .ok (.bipush 24, 2) := by decide +kernel
theorem dX3_measureAkin_13 : decode cX3_measureAkin 13 = .ok (.if_icmp .ge 32, 3) := by decide +kernel
theorem dX3_measureAkin_16 : decode cX3_measureAkin 16 = .ok (.aload_n 0, 1) := by decide +kernel
theorem dX3_measureAkin_17 : decode cX3_measureAkin 17 = .ok (.getfield 18, 3) := by decide +kernel
theorem dX3_measureAkin_20 : decode cX3_measureAkin 20 = .ok (.iload_n 1, 1) := by decide +kernel
theorem dX3_measureAkin_21 : decode cX3_measureAkin 21 = .ok (.aaload, 1) := by decide +kernel
theorem dX3_measureAkin_22 : decode cX3_measureAkin 22 = .ok (.iload_n 2, 1) := by decide +kernel
theorem dX3_measureAkin_23 : decode cX3_measureAkin 23 = .ok (.iload_n 1, 1) := by decide +kernel
theorem dX3_measureAkin_24 : decode cX3_measureAkin 24 = .ok (.iload_n 2, 1) := by decide +kernel
theorem dX3_measureAkin_25 : decode cX3_measureAkin 25 = .ok (.if_icmp .ne 7, 3) := by decide +kernel
theorem dX3_measureAkin_28 : decode cX3_measureAkin 28 = .ok (.iconst 0, 1) := by decide +kernel
theorem dX3_measureAkin_29 : decode cX3_measureAkin 29 = .ok (.goto 9, 3) := by decide +kernel
theorem dX3_measureAkin_32 : decode cX3_measureAkin 32 = .ok (.aload_n 0, 1) := by decide +kernel
theorem dX3_measureAkin_33 : decode cX3_measureAkin 33 = .ok (.iload_n 1, 1) := by decide +kernel
theorem dX3_measureAkin_34 : decode cX3_measureAkin 34 = .ok (.iload_n 2, 1) := by decide +kernel
theorem dX3_measureAkin_35 : decode cX3_measureAkin 35 = .ok (.invokevirtual 54, 3) := by decide +kernel
theorem dX3_measureAkin_38 : decode cX3_measureAkin 38 = .ok (.iastore, 1) := by decide +kernel
theorem dX3_measureAkin_39 : decode cX3_measureAkin 39 = .ok (.iinc 2 1, 3) := by decide +kernel
theorem dX3_measureAkin_42 : decode cX3_measureAkin 42 = .ok (.goto (-32), 3) := by decide +kernel
theorem dX3_measureAkin_45 : decode cX3_measureAkin 45 = .ok (.iinc 1 1, 3) := by decide +kernel
theorem dX3_measureAkin_48 : decode cX3_measureAkin 48 = .ok (.goto (-46), 3) := by decide +kernel
theorem dX3_measureAkin_51 : decode cX3_measureAkin 51 = .ok (.return_, 1) := by decide +kernel
theorem dX3_measureApart_0 : decode cX3_measureApart 0 = .ok (.iconst 0, 1) := by decide +kernel
theorem dX3_measureApart_1 : decode cX3_measureApart 1 = .ok (.istore_n 1, 1) := by decide +kernel
theorem dX3_measureApart_2 : decode cX3_measureApart 2 = .ok (.iload_n 1, 1) := by decide +kernel
theorem dX3_measureApart_3 : decode cX3_measureApart 3 = .ok (.bipush 24, 2) := by decide +kernel
theorem dX3_measureApart_5 : decode cX3_measureApart 5 = .ok (.if_icmp .ge 32, 3) := by decide +kernel
theorem dX3_measureApart_8 : decode cX3_measureApart 8 = .ok (.iconst 0, 1) := by decide +kernel
theorem dX3_measureApart_9 : decode cX3_measureApart 9 = .ok (.istore_n 2, 1) := by decide +kernel
theorem dX3_measureApart_10 : decode cX3_measureApart 10 = .ok (.iload_n 2, 1) := by decide +kernel
theorem dX3_measureApart_11 : decode cX3_measureApart 11 = .ok (.bipush 24, 2) := by decide +kernel
theorem dX3_measureApart_13 : decode cX3_measureApart 13 = .ok (.if_icmp .ge 18, 3) := by decide +kernel
theorem dX3_measureApart_16 : decode cX3_measureApart 16 = .ok (.aload_n 0, 1) := by decide +kernel
theorem dX3_measureApart_17 : decode cX3_measureApart 17 = .ok (.getfield 21, 3) := by decide +kernel
theorem dX3_measureApart_20 : decode cX3_measureApart 20 = .ok (.iload_n 1, 1) := by decide +kernel
theorem dX3_measureApart_21 : decode cX3_measureApart 21 = .ok (.aaload, 1) := by decide +kernel
theorem dX3_measureApart_22 : decode cX3_measureApart 22 = .ok (.iload_n 2, 1) := by decide +kernel
theorem dX3_measureApart_23 : decode cX3_measureApart 23 = .ok (.iconst 0, 1) := by decide +kernel
theorem dX3_measureApart_24 : decode cX3_measureApart 24 = .ok (.iastore, 1) := by decide +kernel
theorem dX3_measureApart_25 : decode cX3_measureApart 25 = .ok (.iinc 2 1, 3) := by decide +kernel
theorem dX3_measureApart_28 : decode cX3_measureApart 28 = .ok (.goto (-18), 3) := by decide +kernel
theorem dX3_measureApart_31 : decode cX3_measureApart 31 = .ok (.iinc 1 1, 3) := by decide +kernel
theorem dX3_measureApart_34 : decode cX3_measureApart 34 = .ok (.goto (-32), 3) := by decide +kernel
theorem dX3_measureApart_37 : decode cX3_measureApart 37 = .ok (.iconst 0, 1) := by decide +kernel
theorem dX3_measureApart_38 : decode cX3_measureApart 38 = .ok (.istore_n 1, 1) := by decide +kernel
theorem dX3_measureApart_39 : decode cX3_measureApart 39 = .ok (.iload_n 1, 1) := by decide +kernel
theorem dX3_measureApart_40 : decode cX3_measureApart 40 = .ok (.aload_n 0, 1) := by decide +kernel
theorem dX3_measureApart_41 : decode cX3_measureApart 41 = .ok (.getfield 39, 3) := by decide +kernel
theorem dX3_measureApart_44 : decode cX3_measureApart 44 = .ok (.invokevirtual 100, 3) := by decide +kernel
theorem dX3_measureApart_47 : decode cX3_measureApart 47 = .ok (.if_icmp .ge 76, 3) := by decide +kernel
theorem dX3_measureApart_50 : decode cX3_measureApart 50 = .ok (.iconst 0, 1) := by decide +kernel
theorem dX3_measureApart_51 : decode cX3_measureApart 51 = .ok (.istore_n 2, 1) := by decide +kernel
theorem dX3_measureApart_52 : decode cX3_measureApart 52 = .ok (.iload_n 2, 1) := by decide +kernel
theorem dX3_measureApart_53 : decode cX3_measureApart 53 = .ok (.aload_n 0, 1) := by decide +kernel
theorem dX3_measureApart_54 : decode cX3_measureApart 54 = .ok (.getfield 39, 3) := by decide +kernel
theorem dX3_measureApart_57 : decode cX3_measureApart 57 = .ok (.invokevirtual 100, 3) := by decide +kernel
theorem dX3_measureApart_60 : decode cX3_measureApart 60 = .ok (.if_icmp .ge 57, 3) := by decide +kernel
theorem dX3_measureApart_63 : decode cX3_measureApart 63 = .ok (.aload_n 0, 1) := by decide +kernel
theorem dX3_measureApart_64 : decode cX3_measureApart 64 = .ok (.getfield 39, 3) := by decide +kernel
theorem dX3_measureApart_67 : decode cX3_measureApart 67 = .ok (.iload_n 1, 1) := by decide +kernel
theorem dX3_measureApart_68 : decode cX3_measureApart 68 = .ok (.invokevirtual 102, 3) := by decide +kernel
theorem dX3_measureApart_71 : decode cX3_measureApart 71 = .ok (.istore_n 3, 1) := by decide +kernel
theorem dX3_measureApart_72 : decode cX3_measureApart 72 = .ok (.aload_n 0, 1) := by decide +kernel
theorem dX3_measureApart_73 : decode cX3_measureApart 73 = .ok (.getfield 39, 3) := by decide +kernel
theorem dX3_measureApart_76 : decode cX3_measureApart 76 = .ok (.iload_n 2, 1) := by decide +kernel
theorem dX3_measureApart_77 : decode cX3_measureApart 77 = .ok (.invokevirtual 102, 3) := by decide +kernel
theorem dX3_measureApart_80 : decode cX3_measureApart 80 = .ok (.istore 4, 2) := by decide +kernel
theorem dX3_measureApart_82 : decode cX3_measureApart 82 = .ok (.aload_n 0, 1) := by decide +kernel
theorem dX3_measureApart_83 : decode cX3_measureApart 83 = .ok (.getfield 21, 3) := by decide +kernel
theorem dX3_measureApart_86 : decode cX3_measureApart 86 = .ok (.iload_n 3, 1) := by decide +kernel
theorem dX3_measureApart_87 : decode cX3_measureApart 87 = .ok (.aaload, 1) := by decide +kernel
theorem dX3_measureApart_88 : decode cX3_measureApart 88 = .ok (.iload 4, 2) := by decide +kernel
theorem dX3_measureApart_90 : decode cX3_measureApart 90 = .ok (.aload_n 0, 1) := by decide +kernel
theorem dX3_measureApart_91 : decode cX3_measureApart 91 = .ok (.getfield 21, 3) := by decide +kernel
theorem dX3_measureApart_94 : decode cX3_measureApart 94 = .ok (.iload_n 3, 1) := by decide +kernel
theorem dX3_measureApart_95 : decode cX3_measureApart 95 = .ok (.aaload, 1) := by decide +kernel
theorem dX3_measureApart_96 : decode cX3_measureApart 96 = .ok (.iload 4, 2) := by decide +kernel
theorem dX3_measureApart_98 : decode cX3_measureApart 98 = .ok (.iaload, 1) := by decide +kernel
theorem dX3_measureApart_99 : decode cX3_measureApart 99 = .ok (.aload_n 0, 1) := by decide +kernel
theorem dX3_measureApart_100 : decode cX3_measureApart 100 = .ok (.getfield 13, 3) := by decide +kernel
theorem dX3_measureApart_103 : decode cX3_measureApart 103 = .ok (.iload_n 1, 1) := by decide +kernel
theorem dX3_measureApart_104 : decode cX3_measureApart 104 = .ok (.aaload, 1) := by decide +kernel
theorem dX3_measureApart_105 : decode cX3_measureApart 105 = .ok (.iload_n 2, 1) := by decide +kernel
theorem dX3_measureApart_106 : decode cX3_measureApart 106 = .ok (.iaload, 1) := by decide +kernel
theorem dX3_measureApart_107 : decode cX3_measureApart 107 = .ok (.invokestatic 105, 3) := by decide +kernel
theorem dX3_measureApart_110 : decode cX3_measureApart 110 = .ok (.iastore, 1) := by decide +kernel
theorem dX3_measureApart_111 : decode cX3_measureApart 111 = .ok (.iinc 2 1, 3) := by decide +kernel
theorem dX3_measureApart_114 : decode cX3_measureApart 114 = .ok (.goto (-62), 3) := by decide +kernel
theorem dX3_measureApart_117 : decode cX3_measureApart 117 = .ok (.iinc 1 1, 3) := by decide +kernel
theorem dX3_measureApart_120 : decode cX3_measureApart 120 = .ok (.goto (-81), 3) := by decide +kernel
theorem dX3_measureApart_123 : decode cX3_measureApart 123 = .ok (.return_, 1) := by decide +kernel
theorem dX3_seatBound_0 : decode cX3_seatBound 0 = .ok (.aload_n 0, 1) := by decide +kernel
theorem dX3_seatBound_1 : decode cX3_seatBound 1 = .ok (.iconst 0, 1) := by decide +kernel
theorem dX3_seatBound_2 : decode cX3_seatBound 2 = .ok (.putfield 76, 3) := by decide +kernel
theorem dX3_seatBound_5 : decode cX3_seatBound 5 = .ok (.iconst 0, 1) := by decide +kernel
theorem dX3_seatBound_6 : decode cX3_seatBound 6 = .ok (.istore_n 1, 1) := by decide +kernel
theorem dX3_seatBound_7 : decode cX3_seatBound 7 = .ok (.iload_n 1, 1) := by decide +kernel
theorem dX3_seatBound_8 : decode cX3_seatBound 8 = .ok (.aload_n 0, 1) := by decide +kernel
theorem dX3_seatBound_9 : decode cX3_seatBound 9 = .ok (.getfield 39, 3) := by decide +kernel
theorem dX3_seatBound_12 : decode cX3_seatBound 12 = .ok (.invokevirtual 100, 3) := by decide +kernel
theorem dX3_seatBound_15 : decode cX3_seatBound 15 = .ok (.if_icmp .ge 49, 3) := by decide +kernel
theorem dX3_seatBound_18 : decode cX3_seatBound 18 = .ok (.aload_n 0, 1) := by decide +kernel
theorem dX3_seatBound_19 : decode cX3_seatBound 19 = .ok (.getfield 76, 3) := by decide +kernel
theorem dX3_seatBound_22 : decode cX3_seatBound 22 = .ok (.bipush 8, 2) := by decide +kernel
theorem dX3_seatBound_24 : decode cX3_seatBound 24 = .ok (.if_icmp .ge 40, 3) := by decide +kernel
theorem dX3_seatBound_27 : decode cX3_seatBound 27 = .ok (.aload_n 0, 1) := by decide +kernel
theorem dX3_seatBound_28 : decode cX3_seatBound 28 = .ok (.iload_n 1, 1) := by decide +kernel
theorem dX3_seatBound_29 : decode cX3_seatBound 29 = .ok (.invokevirtual 110, 3) := by decide +kernel
theorem dX3_seatBound_32 : decode cX3_seatBound 32 = .ok (.ifCond .ne 6, 3) := by decide +kernel
theorem dX3_seatBound_35 : decode cX3_seatBound 35 = .ok (.goto 23, 3) := by decide +kernel
theorem dX3_seatBound_38 : decode cX3_seatBound 38 = .ok (.aload_n 0, 1) := by decide +kernel
theorem dX3_seatBound_39 : decode cX3_seatBound 39 = .ok (.getfield 30, 3) := by decide +kernel
theorem dX3_seatBound_42 : decode cX3_seatBound 42 = .ok (.aload_n 0, 1) := by decide +kernel
theorem dX3_seatBound_43 : decode cX3_seatBound 43 = .ok (.getfield 76, 3) := by decide +kernel
theorem dX3_seatBound_46 : decode cX3_seatBound 46 = .ok (.iload_n 1, 1) := by decide +kernel
theorem dX3_seatBound_47 : decode cX3_seatBound 47 = .ok (.iastore, 1) := by decide +kernel
theorem dX3_seatBound_48 : decode cX3_seatBound 48 = .ok (.aload_n 0, 1) := by decide +kernel
theorem dX3_seatBound_49 : decode cX3_seatBound 49 = .ok (.dup, 1) := by decide +kernel
theorem dX3_seatBound_50 : decode cX3_seatBound 50 = .ok (.getfield 76, 3) := by decide +kernel
theorem dX3_seatBound_53 : decode cX3_seatBound 53 = .ok (.iconst 1, 1) := by decide +kernel
theorem dX3_seatBound_54 : decode cX3_seatBound 54 = .ok (.iadd, 1) := by decide +kernel
theorem dX3_seatBound_55 : decode cX3_seatBound 55 = .ok (.putfield 76, 3) := by decide +kernel
theorem dX3_seatBound_58 : decode cX3_seatBound 58 = .ok (.iinc 1 1, 3) := by decide +kernel
theorem dX3_seatBound_61 : decode cX3_seatBound 61 = .ok (.goto (-54), 3) := by decide +kernel
theorem dX3_seatBound_64 : decode cX3_seatBound 64 = .ok (.return_, 1) := by decide +kernel
theorem dX3_isBound_0 : decode cX3_isBound 0 = .ok (.iconst 0, 1) := by decide +kernel
theorem dX3_isBound_1 : decode cX3_isBound 1 = .ok (.istore_n 2, 1) := by decide +kernel
theorem dX3_isBound_2 : decode cX3_isBound 2 = .ok (.iload_n 2, 1) := by decide +kernel
theorem dX3_isBound_3 : decode cX3_isBound 3 = .ok (.aload_n 0, 1) := by decide +kernel
theorem dX3_isBound_4 : decode cX3_isBound 4 = .ok (.getfield 39, 3) := by decide +kernel
theorem dX3_isBound_7 : decode cX3_isBound 7 = .ok (.invokevirtual 100, 3) := by decide +kernel
theorem dX3_isBound_10 : decode cX3_isBound 10 = .ok (.if_icmp .ge 38, 3) := by decide +kernel
theorem dX3_isBound_13 : decode cX3_isBound 13 = .ok (.iload_n 2, 1) := by decide +kernel
theorem dX3_isBound_14 : decode cX3_isBound 14 = .ok (.iload_n 1, 1) := by decide +kernel
theorem dX3_isBound_15 : decode cX3_isBound 15 = .ok (.if_icmp .eq 27, 3) := by decide +kernel
theorem dX3_isBound_18 : decode cX3_isBound 18 = .ok (.aload_n 0, 1) := by decide +kernel
theorem dX3_isBound_19 : decode cX3_isBound 19 = .ok (.getfield 18, 3) := by decide +kernel
theorem dX3_isBound_22 : decode cX3_isBound 22 = .ok (.iload_n 1, 1) := by decide +kernel
theorem dX3_isBound_23 : decode cX3_isBound 23 = .ok (.aaload, 1) := by decide +kernel
theorem dX3_isBound_24 : decode cX3_isBound 24 = .ok (.iload_n 2, 1) := by decide +kernel
theorem dX3_isBound_25 : decode cX3_isBound 25 = .ok (.iaload, 1) := by decide +kernel
theorem dX3_isBound_26 : decode cX3_isBound 26 = .ok (.ifCond .gt 14, 3) := by decide +kernel
theorem dX3_isBound_29 : decode cX3_isBound 29 = .ok (.aload_n 0, 1) := by decide +kernel
theorem dX3_isBound_30 : decode cX3_isBound 30 = .ok (.getfield 21, 3) := by decide +kernel
theorem dX3_isBound_33 : decode cX3_isBound 33 = .ok (.iload_n 1, 1) := by decide +kernel
theorem dX3_isBound_34 : decode cX3_isBound 34 = .ok (.aaload, 1) := by decide +kernel
theorem dX3_isBound_35 : decode cX3_isBound 35 = .ok (.iload_n 2, 1) := by decide +kernel
theorem dX3_isBound_36 : decode cX3_isBound 36 = .ok (.iaload, 1) := by decide +kernel
theorem dX3_isBound_37 : decode cX3_isBound 37 = .ok (.ifCond .le 5, 3) := by decide +kernel
theorem dX3_isBound_40 : decode cX3_isBound 40 = .ok (.iconst 1, 1) := by decide +kernel
theorem dX3_isBound_41 : decode cX3_isBound 41 = .ok (.ireturn, 1) := by decide +kernel
theorem dX3_isBound_42 : decode cX3_isBound 42 = .ok (.iinc 2 1, 3) := by decide +kernel
theorem dX3_isBound_45 : decode cX3_isBound 45 = .ok (.goto (-43), 3) := by decide +kernel
theorem dX3_isBound_48 : decode cX3_isBound 48 = .ok (.iconst 0, 1) := by decide +kernel
theorem dX3_isBound_49 : decode cX3_isBound 49 = .ok (.ireturn, 1) := by decide +kernel
theorem dX3_seat_0 : decode cX3_seat 0 = .ok (.iload_n 3, 1) := by decide +kernel
theorem dX3_seat_1 : decode cX3_seat 1 = .ok (.aload_n 0, 1) := by decide +kernel
theorem dX3_seat_2 : decode cX3_seat 2 = .ok (.getfield 68, 3) := by decide +kernel
theorem dX3_seat_5 : decode cX3_seat 5 = .ok (.if_icmp .lt 4, 3) := by decide +kernel
theorem dX3_seat_8 : decode cX3_seat 8 = .ok (.return_, 1) := by decide +kernel
theorem dX3_seat_9 : decode cX3_seat 9 = .ok (.iload_n 2, 1) := by decide +kernel
theorem dX3_seat_10 : decode cX3_seat 10 = .ok (.aload_n 0, 1) := by decide +kernel
theorem dX3_seat_11 : decode cX3_seat 11 = .ok (.getfield 76, 3) := by decide +kernel
theorem dX3_seat_14 : decode cX3_seat 14 = .ok (.if_icmp .ge 9, 3) := by decide +kernel
theorem dX3_seat_17 : decode cX3_seat 17 = .ok (.iload_n 2, 1) := by decide +kernel
theorem dX3_seat_18 : decode cX3_seat 18 = .ok (.bipush 8, 2) := by decide +kernel
theorem dX3_seat_20 : decode cX3_seat 20 = .ok (.if_icmp .lt 9, 3) := by decide +kernel
theorem dX3_seat_23 : decode cX3_seat 23 = .ok (.aload_n 0, 1) := by decide +kernel
theorem dX3_seat_24 : decode cX3_seat 24 = .ok (.iload_n 3, 1) := by decide +kernel
theorem dX3_seat_25 : decode cX3_seat 25 = .ok (.invokevirtual 113, 3) := by decide +kernel
theorem dX3_seat_28 : decode cX3_seat 28 = .ok (.return_, 1) := by decide +kernel
theorem dX3_seat_29 : decode cX3_seat 29 = .ok (.iconst 0, 1) := by decide +kernel
theorem dX3_seat_30 : decode cX3_seat 30 = .ok (.istore 4, 2) := by decide +kernel
theorem dX3_seat_32 : decode cX3_seat 32 = .ok (.iload 4, 2) := by decide +kernel
theorem dX3_seat_34 : decode cX3_seat 34 = .ok (.iload_n 1, 1) := by decide +kernel
theorem dX3_seat_35 : decode cX3_seat 35 = .ok (.if_icmp .ge 32, 3) := by decide +kernel
theorem dX3_seat_38 : decode cX3_seat 38 = .ok (.aload_n 0, 1) := by decide +kernel
theorem dX3_seat_39 : decode cX3_seat 39 = .ok (.getfield 33, 3) := by decide +kernel
theorem dX3_seat_42 : decode cX3_seat 42 = .ok (.iload_n 2, 1) := by decide +kernel
theorem dX3_seat_43 : decode cX3_seat 43 = .ok (.iload 4, 2) := by decide +kernel
theorem dX3_seat_45 : decode cX3_seat 45 = .ok (.iastore, 1) := by decide +kernel
theorem dX3_seat_46 : decode cX3_seat 46 = .ok (.aload_n 0, 1) := by decide +kernel
theorem dX3_seat_47 : decode cX3_seat 47 = .ok (.iload_n 1, 1) := by decide +kernel
theorem dX3_seat_48 : decode cX3_seat 48 = .ok (.iload_n 2, 1) := by decide +kernel
theorem dX3_seat_49 : decode cX3_seat 49 = .ok (.iconst 1, 1) := by decide +kernel
theorem dX3_seat_50 : decode cX3_seat 50 = .ok (.iadd, 1) := by decide +kernel
theorem dX3_seat_51 : decode cX3_seat 51 = .ok (.iload_n 3, 1) := by decide +kernel
theorem dX3_seat_52 : decode cX3_seat 52 = .ok (.aload_n 0, 1) := by decide +kernel
theorem dX3_seat_53 : decode cX3_seat 53 = .ok (.iload_n 2, 1) := by decide +kernel
theorem dX3_seat_54 : decode cX3_seat 54 = .ok (.invokevirtual 117, 3) := by decide +kernel
theorem dX3_seat_57 : decode cX3_seat 57 = .ok (.iadd, 1) := by decide +kernel
theorem dX3_seat_58 : decode cX3_seat 58 = .ok (.invokestatic 72, 3) := by decide +kernel
theorem dX3_seat_61 : decode cX3_seat 61 = .ok (.iinc 4 1, 3) := by decide +kernel
theorem dX3_seat_64 : decode cX3_seat 64 = .ok (.goto (-32), 3) := by decide +kernel
theorem dX3_seat_67 : decode cX3_seat 67 = .ok (.return_, 1) := by decide +kernel
theorem dX3_keep_0 : decode cX3_keep 0 = .ok (.aload_n 0, 1) := by decide +kernel
theorem dX3_keep_1 : decode cX3_keep 1 = .ok (.iload_n 1, 1) := by decide +kernel
theorem dX3_keep_2 : decode cX3_keep 2 = .ok (.putfield 68, 3) := by decide +kernel
theorem dX3_keep_5 : decode cX3_keep 5 = .ok (.iconst 0, 1) := by decide +kernel
theorem dX3_keep_6 : decode cX3_keep 6 = .ok (.istore_n 2, 1) := by decide +kernel
theorem dX3_keep_7 : decode cX3_keep 7 = .ok (.iload_n 2, 1) := by decide +kernel
theorem dX3_keep_8 : decode cX3_keep 8 = .ok (.bipush 8, 2) := by decide +kernel
theorem dX3_keep_10 : decode cX3_keep 10 = .ok (.if_icmp .ge 21, 3) := by decide +kernel
theorem dX3_keep_13 : decode cX3_keep 13 = .ok (.aload_n 0, 1) := by decide +kernel
theorem dX3_keep_14 : decode cX3_keep 14 = .ok (.getfield 36, 3) := by decide +kernel
theorem dX3_keep_17 : decode cX3_keep 17 = .ok (.iload_n 2, 1) := by decide +kernel
theorem dX3_keep_18 : decode cX3_keep 18 = .ok (.aload_n 0, 1) := by decide +kernel
theorem dX3_keep_19 : decode cX3_keep 19 = .ok (.getfield 33, 3) := by decide +kernel
theorem dX3_keep_22 : decode cX3_keep 22 = .ok (.iload_n 2, 1) := by decide +kernel
theorem dX3_keep_23 : decode cX3_keep 23 = .ok (.iaload, 1) := by decide +kernel
theorem dX3_keep_24 : decode cX3_keep 24 = .ok (.iastore, 1) := by decide +kernel
theorem dX3_keep_25 : decode cX3_keep 25 = .ok (.iinc 2 1, 3) := by decide +kernel
theorem dX3_keep_28 : decode cX3_keep 28 = .ok (.goto (-21), 3) := by decide +kernel
theorem dX3_keep_31 : decode cX3_keep 31 = .ok (.return_, 1) := by decide +kernel
theorem dX3_quarrelOf_0 : decode cX3_quarrelOf 0 = .ok (.iconst 0, 1) := by decide +kernel
theorem dX3_quarrelOf_1 : decode cX3_quarrelOf 1 = .ok (.istore_n 2, 1) := by decide +kernel
theorem dX3_quarrelOf_2 : decode cX3_quarrelOf 2 = .ok (.iconst 0, 1) := by decide +kernel
theorem dX3_quarrelOf_3 : decode cX3_quarrelOf 3 = .ok (.istore_n 3, 1) := by decide +kernel
theorem dX3_quarrelOf_4 : decode cX3_quarrelOf 4 = .ok (.iload_n 3, 1) := by decide +kernel
theorem dX3_quarrelOf_5 : decode cX3_quarrelOf 5 = .ok (.iload_n 1, 1) := by decide +kernel
theorem dX3_quarrelOf_6 : decode cX3_quarrelOf 6 = .ok (.if_icmp .ge 56, 3) := by decide +kernel
theorem dX3_quarrelOf_9 : decode cX3_quarrelOf 9 = .ok (.aload_n 0, 1) := by decide +kernel
theorem dX3_quarrelOf_10 : decode cX3_quarrelOf 10 = .ok (.getfield 33, 3) := by decide +kernel
theorem dX3_quarrelOf_13 : decode cX3_quarrelOf 13 = .ok (.iload_n 1, 1) := by decide +kernel
theorem dX3_quarrelOf_14 : decode cX3_quarrelOf 14 = .ok (.iaload, 1) := by decide +kernel
theorem dX3_quarrelOf_15 : decode cX3_quarrelOf 15 = .ok (.aload_n 0, 1) := by decide +kernel
theorem dX3_quarrelOf_16 : decode cX3_quarrelOf 16 = .ok (.getfield 33, 3) := by decide +kernel
theorem dX3_quarrelOf_19 : decode cX3_quarrelOf 19 = .ok (.iload_n 3, 1) := by decide +kernel
theorem dX3_quarrelOf_20 : decode cX3_quarrelOf 20 = .ok (.iaload, 1) := by decide +kernel
theorem dX3_quarrelOf_21 : decode cX3_quarrelOf 21 = .ok (.if_icmp .ne 10, 3) := by decide +kernel
theorem dX3_quarrelOf_24 : decode cX3_quarrelOf 24 = .ok (.aload_n 0, 1) := by decide +kernel
theorem dX3_quarrelOf_25 : decode cX3_quarrelOf 25 = .ok (.getfield 21, 3) := by decide +kernel
theorem dX3_quarrelOf_28 : decode cX3_quarrelOf 28 = .ok (.goto 7, 3) := by decide +kernel
theorem dX3_quarrelOf_31 : decode cX3_quarrelOf 31 = .ok (.aload_n 0, 1) := by decide +kernel
theorem dX3_quarrelOf_32 : decode cX3_quarrelOf 32 = .ok (.getfield 18, 3) := by decide +kernel
theorem dX3_quarrelOf_35 : decode cX3_quarrelOf 35 = .ok (.astore 4, 2) := by decide +kernel
theorem dX3_quarrelOf_37 : decode cX3_quarrelOf 37 = .ok (.iload_n 2, 1) := by decide +kernel
theorem dX3_quarrelOf_38 : decode cX3_quarrelOf 38 = .ok (.aload 4, 2) := by decide +kernel
theorem dX3_quarrelOf_40 : decode cX3_quarrelOf 40 = .ok (.aload_n 0, 1) := by decide +kernel
theorem dX3_quarrelOf_41 : decode cX3_quarrelOf 41 = .ok (.getfield 30, 3) := by decide +kernel
theorem dX3_quarrelOf_44 : decode cX3_quarrelOf 44 = .ok (.iload_n 1, 1) := by decide +kernel
theorem dX3_quarrelOf_45 : decode cX3_quarrelOf 45 = .ok (.iaload, 1) := by decide +kernel
theorem dX3_quarrelOf_46 : decode cX3_quarrelOf 46 = .ok (.aaload, 1) := by decide +kernel
theorem dX3_quarrelOf_47 : decode cX3_quarrelOf 47 = .ok (.aload_n 0, 1) := by decide +kernel
theorem dX3_quarrelOf_48 : decode cX3_quarrelOf 48 = .ok (.getfield 30, 3) := by decide +kernel
theorem dX3_quarrelOf_51 : decode cX3_quarrelOf 51 = .ok (.iload_n 3, 1) := by decide +kernel
theorem dX3_quarrelOf_52 : decode cX3_quarrelOf 52 = .ok (.iaload, 1) := by decide +kernel
theorem dX3_quarrelOf_53 : decode cX3_quarrelOf 53 = .ok (.iaload, 1) := by decide +kernel
theorem dX3_quarrelOf_54 : decode cX3_quarrelOf 54 = .ok (.iadd, 1) := by decide +kernel
theorem dX3_quarrelOf_55 : decode cX3_quarrelOf 55 = .ok (.istore_n 2, 1) := by decide +kernel
theorem dX3_quarrelOf_56 : decode cX3_quarrelOf 56 = .ok (.iinc 3 1, 3) := by decide +kernel
theorem dX3_quarrelOf_59 : decode cX3_quarrelOf 59 = .ok (.goto (-55), 3) := by decide +kernel
theorem dX3_quarrelOf_62 : decode cX3_quarrelOf 62 = .ok (.iload_n 2, 1) := by decide +kernel
theorem dX3_quarrelOf_63 : decode cX3_quarrelOf 63 = .ok (.ireturn, 1) := by decide +kernel
theorem dX4_init_0 : decode cX4_init 0 = .ok (.aload_n 0, 1) := by decide +kernel
theorem dX4_init_1 : decode cX4_init 1 = .ok (.invokespecial 3, 3) := by decide +kernel
theorem dX4_init_4 : decode cX4_init 4 = .ok (.aload_n 0, 1) := by decide +kernel
theorem dX4_init_5 : decode cX4_init 5 = .ok (.iconst 4, 1) := by decide +kernel
theorem dX4_init_6 : decode cX4_init 6 = .ok (.bipush 8, 2) := by decide +kernel
theorem dX4_init_8 : decode cX4_init 8 = .ok (.multianewarray 11 2, 4) := by decide +kernel
theorem dX4_init_12 : decode cX4_init 12 = .ok (.putfield 13, 3) := by decide +kernel
theorem dX4_init_15 : decode cX4_init 15 = .ok (.aload_n 0, 1) := by decide +kernel
theorem dX4_init_16 : decode cX4_init 16 = .ok (.iconst 4, 1) := by decide +kernel
theorem dX4_init_17 : decode cX4_init 17 = .ok (.newarray .int, 2) := by decide +kernel
theorem dX4_init_19 : decode cX4_init 19 = .ok (.putfield 16, 3) := by decide +kernel
theorem dX4_init_22 : decode cX4_init 22 = .ok (.aload_n 0, 1) := by decide +kernel
theorem dX4_init_23 : decode cX4_init 23 = .ok (.aload_n 1, 1) := by decide +kernel
theorem dX4_init_24 : decode cX4_init 24 = .ok (.putfield 20, 3) := by decide +kernel
theorem dX4_init_27 : decode cX4_init 27 = .ok (.return_, 1) := by decide +kernel
theorem dX4_size_0 : decode cX4_size 0 = .ok (.aload_n 0, 1) := by decide +kernel
theorem dX4_size_1 : decode cX4_size 1 = .ok (.getfield 24, 3) := by decide +kernel
theorem dX4_size_4 : decode cX4_size 4 = .ok (.ireturn, 1) := by decide +kernel
theorem dX4_areSounds_0 : decode cX4_areSounds 0 = .ok (.iload_n 0, 1) := by decide +kernel
theorem dX4_areSounds_1 : decode cX4_areSounds 1 = .ok (.iconst 1, 1) := by decide +kernel
theorem dX4_areSounds_2 : decode cX4_areSounds 2 = .ok (.if_icmp .lt 24, 3) := by decide +kernel
theorem dX4_areSounds_5 : decode cX4_areSounds 5 = .ok (.iload_n 0, 1) := by decide +kernel
theorem dX4_areSounds_6 : decode cX4_areSounds 6 = .ok (.iload_n 1, 1) := by decide +kernel
theorem dX4_areSounds_7 : decode cX4_areSounds 7 = .ok (.if_icmp .gt 19, 3) := by decide +kernel
theorem dX4_areSounds_10 : decode cX4_areSounds 10 = .ok (.iload_n 2, 1) := by decide +kernel
theorem dX4_areSounds_11 : decode cX4_areSounds 11 = .ok (.ifCond .lt 15, 3) := by decide +kernel
theorem dX4_areSounds_14 : decode cX4_areSounds 14 = .ok (.iload_n 2, 1) := by decide +kernel
theorem dX4_areSounds_15 : decode cX4_areSounds 15 = .ok (.iconst 2, 1) := by decide +kernel
theorem dX4_areSounds_16 : decode cX4_areSounds 16 = .ok (.iload_n 0, 1) := by decide +kernel
theorem dX4_areSounds_17 : decode cX4_areSounds 17 = .ok (.imul, 1) := by decide +kernel
theorem dX4_areSounds_18 : decode cX4_areSounds 18 = .ok (.ishr, 1) := by decide +kernel
theorem dX4_areSounds_19 : decode cX4_areSounds 19 = .ok (.ifCond .ne 7, 3) := by decide +kernel
theorem dX4_areSounds_22 : decode cX4_areSounds 22 = .ok (.iconst 1, 1) := by decide +kernel
theorem dX4_areSounds_23 : decode cX4_areSounds 23 = .ok (.goto 4, 3) := by decide +kernel
theorem dX4_areSounds_26 : decode cX4_areSounds 26 = .ok (.iconst 0, 1) := by decide +kernel
theorem dX4_areSounds_27 : decode cX4_areSounds 27 = .ok (.ireturn, 1) := by decide +kernel
theorem dX4_add_0 : decode cX4_add 0 = .ok (.iload_n 1, 1) := by decide +kernel
theorem dX4_add_1 : decode cX4_add 1 = .ok (.bipush 8, 2) := by decide +kernel
theorem dX4_add_3 : decode cX4_add 3 = .ok (.iload_n 2, 1) := by decide +kernel
theorem dX4_add_4 : decode cX4_add 4 = .ok (.invokestatic 28, 3) := by decide +kernel
theorem dX4_add_7 : decode cX4_add 7 = .ok (.ifCond .ne 5, 3) := by decide +kernel
theorem dX4_add_10 : decode cX4_add 10 = .ok (.iconst (-1), 1) := by decide +kernel
theorem dX4_add_11 : decode cX4_add 11 = .ok (.ireturn, 1) := by decide +kernel
theorem dX4_add_12 : decode cX4_add 12 = .ok (.aload_n 0, 1) := by decide +kernel
theorem dX4_add_13 : decode cX4_add 13 = .ok (.getfield 24, 3) := by decide +kernel
theorem dX4_add_16 : decode cX4_add 16 = .ok (.iconst 4, 1) := by decide +kernel
theorem dX4_add_17 : decode cX4_add 17 = .ok (.if_icmp .lt 6, 3) := by decide +kernel
theorem dX4_add_20 : decode cX4_add 20 = .ok (.bipush (-3), 2) := by decide +kernel
theorem dX4_add_22 : decode cX4_add 22 = .ok (.ireturn, 1) := by decide +kernel
theorem dX4_add_23 : decode cX4_add 23 = .ok (.iconst 0, 1) := by decide +kernel
theorem dX4_add_24 : decode cX4_add 24 = .ok (.istore_n 3, 1) := by decide +kernel
theorem dX4_add_25 : decode cX4_add 25 = .ok (.iload_n 3, 1) := by decide +kernel
theorem dX4_add_26 : decode cX4_add 26 = .ok (.iload_n 1, 1) := by decide +kernel
theorem dX4_add_27 : decode cX4_add 27 = .ok (.if_icmp .ge 31, 3) := by decide +kernel
theorem dX4_add_30 : decode cX4_add 30 = .ok (.aload_n 0, 1) := by decide +kernel
theorem dX4_add_31 : decode cX4_add 31 = .ok (.getfield 13, 3) := by decide +kernel
theorem dX4_add_34 : decode cX4_add 34 = .ok (.aload_n 0, 1) := by decide +kernel
theorem dX4_add_35 : decode cX4_add 35 = .ok (.getfield 24, 3) := by decide +kernel
theorem dX4_add_38 : decode cX4_add 38 = .ok (.aaload, 1) := by decide +kernel
theorem dX4_add_39 : decode cX4_add 39 = .ok (.iload_n 3, 1) := by decide +kernel
theorem dX4_add_40 : decode cX4_add 40 = .ok (.iload_n 2, 1) := by decide +kernel
theorem dX4_add_41 : decode cX4_add 41 = .ok (.iconst 2, 1) := by decide +kernel
theorem dX4_add_42 : decode cX4_add 42 = .ok (.iload_n 1, 1) := by decide +kernel
theorem dX4_add_43 : decode cX4_add 43 = .ok (.iconst 1, 1) := by decide +kernel
theorem dX4_add_44 : decode cX4_add 44 = .ok (.isub, 1) := by decide +kernel
theorem dX4_add_45 : decode cX4_add 45 = .ok (.iload_n 3, 1) := by decide +kernel
theorem dX4_add_46 : decode cX4_add 46 = .ok (.isub, 1) := by decide +kernel
theorem dX4_add_47 : decode cX4_add 47 = .ok (.imul, 1) := by decide +kernel
theorem dX4_add_48 : decode cX4_add 48 = .ok (.ishr, 1) := by decide +kernel
theorem dX4_add_49 : decode cX4_add 49 = .ok (.iconst 3, 1) := by decide +kernel
theorem dX4_add_50 : decode cX4_add 50 = .ok (.iand, 1) := by decide +kernel
theorem dX4_add_51 : decode cX4_add 51 = .ok (.iastore, 1) := by decide +kernel
theorem dX4_add_52 : decode cX4_add 52 = .ok (.iinc 3 1, 3) := by decide +kernel
theorem dX4_add_55 : decode cX4_add 55 = .ok (.goto (-30), 3) := by decide +kernel
theorem dX4_add_58 : decode cX4_add 58 = .ok (.aload_n 0, 1) := by decide +kernel
theorem dX4_add_59 : decode cX4_add 59 = .ok (.getfield 16, 3) := by decide +kernel
theorem dX4_add_62 : decode cX4_add 62 = .ok (.aload_n 0, 1) := by decide +kernel
theorem dX4_add_63 : decode cX4_add 63 = .ok (.getfield 24, 3) := by decide +kernel
theorem dX4_add_66 : decode cX4_add 66 = .ok (.iload_n 1, 1) := by decide +kernel
theorem dX4_add_67 : decode cX4_add 67 = .ok (.iastore, 1) := by decide +kernel
theorem dX4_add_68 : decode cX4_add 68 = .ok (.aload_n 0, 1) := by decide +kernel
theorem dX4_add_69 : decode cX4_add 69 = .ok (.dup, 1) := by decide +kernel
theorem dX4_add_70 : decode cX4_add 70 = .ok (.getfield 24, 3) := by decide +kernel
theorem dX4_add_73 : decode cX4_add 73 = .ok (.iconst 1, 1) := by decide +kernel
theorem dX4_add_74 : decode cX4_add 74 = .ok (.iadd, 1) := by decide +kernel
theorem dX4_add_75 : decode cX4_add 75 = .ok (.putfield 24, 3) := by decide +kernel
theorem dX4_add_78 : decode cX4_add 78 = .ok (.aload_n 0, 1) := by decide +kernel
theorem dX4_add_79 : decode cX4_add 79 = .ok (.getfield 24, 3) := by decide +kernel
theorem dX4_add_82 : decode cX4_add 82 = .ok (.iconst 1, 1) := by decide +kernel
theorem dX4_add_83 : decode cX4_add 83 = .ok (.isub, 1) := by decide +kernel
theorem dX4_add_84 : decode cX4_add 84 = .ok (.ireturn, 1) := by decide +kernel
theorem dX4_isName_0 : decode cX4_isName 0 = .ok (.iload_n 1, 1) := by decide +kernel
theorem dX4_isName_1 : decode cX4_isName 1 = .ok (.ifCond .lt 15, 3) := by decide +kernel
theorem dX4_isName_4 : decode cX4_isName 4 = .ok (.iload_n 1, 1) := by decide +kernel
theorem dX4_isName_5 : decode cX4_isName 5 = .ok (.aload_n 0, 1) := by decide +kernel
theorem dX4_isName_6 : decode cX4_isName 6 = .ok (.getfield 24, 3) := by decide +kernel
theorem dX4_isName_9 : decode cX4_isName 9 = .ok (.if_icmp .ge 7, 3) := by decide +kernel
theorem dX4_isName_12 : decode cX4_isName 12 = .ok (.iconst 1, 1) := by decide +kernel
theorem dX4_isName_13 : decode cX4_isName 13 = .ok (.goto 4, 3) := by decide +kernel
theorem dX4_isName_16 : decode cX4_isName 16 = .ok (.iconst 0, 1) := by decide +kernel
theorem dX4_isName_17 : decode cX4_isName 17 = .ok (.ireturn, 1) := by decide +kernel
theorem dX4_drag_0 : decode cX4_drag 0 = .ok (.aload_n 0, 1) := by decide +kernel
theorem dX4_drag_1 : decode cX4_drag 1 = .ok (.iload_n 1, 1) := by decide +kernel
theorem dX4_drag_2 : decode cX4_drag 2 = .ok (.invokevirtual 32, 3) := by decide +kernel
theorem dX4_drag_5 : decode cX4_drag 5 = .ok (.ifCond .eq 23, 3) := by decide +kernel
theorem dX4_drag_8 : decode cX4_drag 8 = .ok (.aload_n 0, 1) := by decide +kernel
theorem dX4_drag_9 : decode cX4_drag 9 = .ok (.getfield 20, 3) := by decide +kernel
theorem dX4_drag_12 : decode cX4_drag 12 = .ok (.iload_n 2, 1) := by decide +kernel
theorem dX4_drag_13 : decode cX4_drag 13 = .ok (.invokevirtual 36, 3) := by decide +kernel
theorem dX4_drag_16 : decode cX4_drag 16 = .ok (.ifCond .eq 12, 3) := by decide +kernel
theorem dX4_drag_19 : decode cX4_drag 19 = .ok (.iload_n 3, 1) := by decide +kernel
theorem dX4_drag_20 : decode cX4_drag 20 = .ok (.ifCond .lt 8, 3) := by decide +kernel
theorem dX4_drag_23 : decode cX4_drag 23 = .ok (.iload_n 3, 1) := by decide +kernel
theorem dX4_drag_24 : decode cX4_drag 24 = .ok (.iconst 2, 1) := by decide +kernel
theorem dX4_drag_25 : decode cX4_drag 25 = .ok (.if_icmp .le 5, 3) := by decide +kernel
theorem dX4_drag_28 : decode cX4_drag 28 = .ok (.iconst (-1), 1) := by decide +kernel
theorem dX4_drag_29 : decode cX4_drag 29 = .ok (.ireturn, 1) := by decide +kernel
theorem dX4_drag_30 : decode cX4_drag 30 = .ok (.iconst 0, 1) := by decide +kernel
theorem dX4_drag_31 : decode cX4_drag 31 = .ok (.istore 4, 2) := by decide +kernel
theorem dX4_drag_33 : decode cX4_drag 33 = .ok (.bipush (-4), 2) := by decide +kernel
theorem dX4_drag_35 : decode cX4_drag 35 = .ok (.istore 5, 2) := by decide +kernel
theorem dX4_drag_37 : decode cX4_drag 37 = .ok (.bipush (-4), 2) := by decide +kernel
theorem dX4_drag_39 : decode cX4_drag 39 = .ok (.istore 6, 2) := by decide +kernel
theorem dX4_drag_41 : decode cX4_drag 41 = .ok (.iconst 0, 1) := by decide +kernel
theorem dX4_drag_42 : decode cX4_drag 42 = .ok (.istore 7, 2) := by decide +kernel
theorem dX4_drag_44 : decode cX4_drag 44 = .ok (.iload 7, 2) := by decide +kernel
theorem dX4_drag_46 : decode cX4_drag 46 = .ok (.aload_n 0, 1) := by decide +kernel
theorem dX4_drag_47 : decode cX4_drag 47 = .ok (.getfield 20, 3) := by decide +kernel
theorem dX4_drag_50 : decode cX4_drag 50 = .ok (.iload_n 2, 1) := by decide +kernel
theorem dX4_drag_51 : decode cX4_drag 51 = .ok (.invokevirtual 41, 3) := by decide +kernel
theorem dX4_drag_54 : decode cX4_drag 54 = .ok (.if_icmp .ge 39, 3) := by decide +kernel
theorem dX4_drag_57 : decode cX4_drag 57 = .ok (.aload_n 0, 1) := by decide +kernel
theorem dX4_drag_58 : decode cX4_drag 58 = .ok (.iload_n 1, 1) := by decide +kernel
theorem dX4_drag_59 : decode cX4_drag 59 = .ok (.iload_n 2, 1) := by decide +kernel
theorem dX4_drag_60 : decode cX4_drag 60 = .ok (.iload 7, 2) := by decide +kernel
theorem dX4_drag_62 : decode cX4_drag 62 = .ok (.invokevirtual 45, 3) := by decide +kernel
theorem dX4_drag_65 : decode cX4_drag 65 = .ok (.ifCond .ne 6, 3) := by decide +kernel
theorem dX4_drag_68 : decode cX4_drag 68 = .ok (.goto 19, 3) := by decide +kernel
theorem dX4_drag_71 : decode cX4_drag 71 = .ok (.iload 4, 2) := by decide +kernel
theorem dX4_drag_73 : decode cX4_drag 73 = .ok (.ifCond .ne 7, 3) := by decide +kernel
theorem dX4_drag_76 : decode cX4_drag 76 = .ok (.iload 7, 2) := by decide +kernel
theorem dX4_drag_78 : decode cX4_drag 78 = .ok (.istore 5, 2) := by decide +kernel
theorem dX4_drag_80 : decode cX4_drag 80 = .ok (.iload 7, 2) := by decide +kernel
theorem dX4_drag_82 : decode cX4_drag 82 = .ok (.istore 6, 2) := by decide +kernel
theorem dX4_drag_84 : decode cX4_drag 84 = .ok (.iinc 4 1, 3) := by decide +kernel
theorem dX4_drag_87 : decode cX4_drag 87 = .ok (.iinc 7 1, 3) := by decide +kernel
theorem dX4_drag_90 : decode cX4_drag 90 = .ok (.goto (-46), 3) := by decide +kernel
theorem dX4_drag_93 : decode cX4_drag 93 = .ok (.iload_n 3, 1) := by decide +kernel
theorem dX4_drag_94 : decode cX4_drag 94 = .ok (.ifCond .ne 6, 3) := by decide +kernel
theorem dX4_drag_97 : decode cX4_drag 97 = .ok (.iload 4, 2) := by decide +kernel
theorem dX4_drag_99 : decode cX4_drag 99 = .ok (.ireturn, 1) := by decide +kernel
theorem dX4_drag_100 : decode cX4_drag 100 = .ok (.iload_n 3, 1) := by decide +kernel
theorem dX4_drag_101 : decode cX4_drag 101 = .ok (.iconst 1, 1) := by decide +kernel
theorem dX4_drag_102 : decode cX4_drag 102 = .ok (.if_icmp .ne 8, 3) := by decide +kernel
theorem dX4_drag_105 : decode cX4_drag 105 = .ok (.iload 5, 2) := by decide +kernel
theorem dX4_drag_107 : decode cX4_drag 107 = .ok (.goto 5, 3) := by decide +kernel
theorem dX4_drag_110 : decode cX4_drag 110 = .ok (.iload 6, 2) := by decide +kernel
theorem dX4_drag_112 : decode cX4_drag 112 = .ok (.ireturn, 1) := by decide +kernel
theorem dX4_pairs_0 : decode cX4_pairs 0 = .ok (.aload_n 0, 1) := by decide +kernel
theorem dX4_pairs_1 : decode cX4_pairs 1 = .ok (.iload_n 1, 1) := by decide +kernel
theorem dX4_pairs_2 : decode cX4_pairs 2 = .ok (.invokevirtual 32, 3) := by decide +kernel
theorem dX4_pairs_5 : decode cX4_pairs 5 = .ok (.ifCond .eq 34, 3) := by decide +kernel
theorem dX4_pairs_8 : decode cX4_pairs 8 = .ok (.aload_n 0, 1) := by decide +kernel
theorem dX4_pairs_9 : decode cX4_pairs 9 = .ok (.iload_n 3, 1) := by decide +kernel
theorem dX4_pairs_10 : decode cX4_pairs 10 = .ok (.invokevirtual 32, 3) := by decide +kernel
theorem dX4_pairs_13 : decode cX4_pairs 13 = .ok (.ifCond .eq 26, 3) := by decide +kernel
theorem dX4_pairs_16 : decode cX4_pairs 16 = .ok (.aload_n 0, 1) := by decide +kernel
theorem dX4_pairs_17 : decode cX4_pairs 17 = .ok (.getfield 20, 3) := by decide +kernel
theorem dX4_pairs_20 : decode cX4_pairs 20 = .ok (.iload_n 2, 1) := by decide +kernel
theorem dX4_pairs_21 : decode cX4_pairs 21 = .ok (.invokevirtual 36, 3) := by decide +kernel
theorem dX4_pairs_24 : decode cX4_pairs 24 = .ok (.ifCond .eq 15, 3) := by decide +kernel
theorem dX4_pairs_27 : decode cX4_pairs 27 = .ok (.aload_n 0, 1) := by decide +kernel
theorem dX4_pairs_28 : decode cX4_pairs 28 = .ok (.getfield 20, 3) := by decide +kernel
theorem dX4_pairs_31 : decode cX4_pairs 31 = .ok (.iload 4, 2) := by decide +kernel
theorem dX4_pairs_33 : decode cX4_pairs 33 = .ok (.invokevirtual 36, 3) := by decide +kernel
theorem dX4_pairs_36 : decode cX4_pairs 36 = .ok (.ifCond .ne 5, 3) := by decide +kernel
theorem dX4_pairs_39 : decode cX4_pairs 39 = .ok (.iconst (-1), 1) := by decide +kernel
theorem dX4_pairs_40 : decode cX4_pairs 40 = .ok (.ireturn, 1) := by decide +kernel
theorem dX4_pairs_41 : decode cX4_pairs 41 = .ok (.iconst 0, 1) := by decide +kernel
theorem dX4_pairs_42 : decode cX4_pairs 42 = .ok (.istore 5, 2) := by decide +kernel
theorem dX4_pairs_44 : decode cX4_pairs 44 = .ok (.iconst 0, 1) := by decide +kernel
theorem dX4_pairs_45 : decode cX4_pairs 45 = .ok (.istore 6, 2) := by decide +kernel
theorem dX4_pairs_47 : decode cX4_pairs 47 = .ok (.iload 6, 2) := by decide +kernel
theorem dX4_pairs_49 : decode cX4_pairs 49 = .ok (.aload_n 0, 1) := by decide +kernel
theorem dX4_pairs_50 : decode cX4_pairs 50 = .ok (.getfield 20, 3) := by decide +kernel
theorem dX4_pairs_53 : decode cX4_pairs 53 = .ok (.iload_n 2, 1) := by decide +kernel
theorem dX4_pairs_54 : decode cX4_pairs 54 = .ok (.invokevirtual 41, 3) := by decide +kernel
theorem dX4_pairs_57 : decode cX4_pairs 57 = .ok (.if_icmp .ge 77, 3) := by decide +kernel
theorem dX4_pairs_60 : decode cX4_pairs 60 = .ok (.aload_n 0, 1) := by decide +kernel
theorem dX4_pairs_61 : decode cX4_pairs 61 = .ok (.iload_n 1, 1) := by decide +kernel
theorem dX4_pairs_62 : decode cX4_pairs 62 = .ok (.iload_n 2, 1) := by decide +kernel
theorem dX4_pairs_63 : decode cX4_pairs 63 = .ok (.iload 6, 2) := by decide +kernel
theorem dX4_pairs_65 : decode cX4_pairs 65 = .ok (.invokevirtual 45, 3) := by decide +kernel
theorem dX4_pairs_68 : decode cX4_pairs 68 = .ok (.ifCond .ne 6, 3) := by decide +kernel
theorem dX4_pairs_71 : decode cX4_pairs 71 = .ok (.goto 57, 3) := by decide +kernel
theorem dX4_pairs_74 : decode cX4_pairs 74 = .ok (.iconst 0, 1) := by decide +kernel
theorem dX4_pairs_75 : decode cX4_pairs 75 = .ok (.istore 7, 2) := by decide +kernel
theorem dX4_pairs_77 : decode cX4_pairs 77 = .ok (.iload 7, 2) := by decide +kernel
theorem dX4_pairs_79 : decode cX4_pairs 79 = .ok (.aload_n 0, 1) := by decide +kernel
theorem dX4_pairs_80 : decode cX4_pairs 80 = .ok (.getfield 20, 3) := by decide +kernel
theorem dX4_pairs_83 : decode cX4_pairs 83 = .ok (.iload 4, 2) := by decide +kernel
theorem dX4_pairs_85 : decode cX4_pairs 85 = .ok (.invokevirtual 41, 3) := by decide +kernel
theorem dX4_pairs_88 : decode cX4_pairs 88 = .ok (.if_icmp .ge 40, 3) := by decide +kernel
theorem dX4_pairs_91 : decode cX4_pairs 91 = .ok (.aload_n 0, 1) := by decide +kernel
theorem dX4_pairs_92 : decode cX4_pairs 92 = .ok (.iload_n 3, 1) := by decide +kernel
theorem dX4_pairs_93 : decode cX4_pairs 93 = .ok (.iload 4, 2) := by decide +kernel
theorem dX4_pairs_95 : decode cX4_pairs 95 = .ok (.iload 7, 2) := by decide +kernel
theorem dX4_pairs_97 : decode cX4_pairs 97 = .ok (.invokevirtual 45, 3) := by decide +kernel
theorem dX4_pairs_100 : decode cX4_pairs 100 = .ok (.ifCond .eq 22, 3) := by decide +kernel
theorem dX4_pairs_103 : decode cX4_pairs 103 = .ok (.aload_n 0, 1) := by decide +kernel
theorem dX4_pairs_104 : decode cX4_pairs 104 = .ok (.iload_n 1, 1) := by decide +kernel
theorem dX4_pairs_105 : decode cX4_pairs 105 = .ok (.iload_n 2, 1) := by decide +kernel
theorem dX4_pairs_106 : decode cX4_pairs 106 = .ok (.iload 6, 2) := by decide +kernel
theorem dX4_pairs_108 : decode cX4_pairs 108 = .ok (.iload_n 3, 1) := by decide +kernel
theorem dX4_pairs_109 : decode cX4_pairs 109 = .ok (.iload 4, 2) := by decide +kernel
theorem dX4_pairs_111 : decode cX4_pairs 111 = .ok (.iload 7, 2) := by decide +kernel
theorem dX4_pairs_113 : decode cX4_pairs 113 = .ok (.invokevirtual 48, 3) := by decide +kernel
theorem dX4_pairs_116 : decode cX4_pairs 116 = .ok (.ifCond .eq 6, 3) := by decide +kernel
theorem dX4_pairs_119 : decode cX4_pairs 119 = .ok (.iinc 5 1, 3) := by decide +kernel
theorem dX4_pairs_122 : decode cX4_pairs 122 = .ok (.iinc 7 1, 3) := by decide +kernel
theorem dX4_pairs_125 : decode cX4_pairs 125 = .ok (.goto (-48), 3) := by decide +kernel
theorem dX4_pairs_128 : decode cX4_pairs 128 = .ok (.iinc 6 1, 3) := by decide +kernel
theorem dX4_pairs_131 : decode cX4_pairs 131 = .ok (.goto (-84), 3) := by decide +kernel
theorem dX4_pairs_134 : decode cX4_pairs 134 = .ok (.iload 5, 2) := by decide +kernel
theorem dX4_pairs_136 : decode cX4_pairs 136 = .ok (.ireturn, 1) := by decide +kernel
theorem dX4_fits_0 : decode cX4_fits 0 = .ok (.iconst 0, 1) := by decide +kernel
theorem dX4_fits_1 : decode cX4_fits 1 = .ok (.istore 4, 2) := by decide +kernel
theorem dX4_fits_3 : decode cX4_fits 3 = .ok (.iload 4, 2) := by decide +kernel
theorem dX4_fits_5 : decode cX4_fits 5 = .ok (.aload_n 0, 1) := by decide +kernel
theorem dX4_fits_6 : decode cX4_fits 6 = .ok (.getfield 16, 3) := by decide +kernel
theorem dX4_fits_9 : decode cX4_fits 9 = .ok (.iload_n 1, 1) := by decide +kernel
theorem dX4_fits_10 : decode cX4_fits 10 = .ok (.iaload, 1) := by decide +kernel
theorem dX4_fits_11 : decode cX4_fits 11 = .ok (.if_icmp .ge 26, 3) := by decide +kernel
theorem dX4_fits_14 : decode cX4_fits 14 = .ok (.aload_n 0, 1) := by decide +kernel
theorem dX4_fits_15 : decode cX4_fits 15 = .ok (.getfield 20, 3) := by decide +kernel
theorem dX4_fits_18 : decode cX4_fits 18 = .ok (.iload_n 2, 1) := by decide +kernel
theorem dX4_fits_19 : decode cX4_fits 19 = .ok (.iload_n 3, 1) := by decide +kernel
theorem dX4_fits_20 : decode cX4_fits 20 = .ok (.iload 4, 2) := by decide +kernel
theorem dX4_fits_22 : decode cX4_fits 22 = .ok (.iadd, 1) := by decide +kernel
theorem dX4_fits_23 : decode cX4_fits 23 = .ok (.invokevirtual 52, 3) := by decide +kernel
theorem dX4_fits_26 : decode cX4_fits 26 = .ok (.ifCond .ge 5, 3) := by decide +kernel
theorem dX4_fits_29 : decode cX4_fits 29 = .ok (.iconst 0, 1) := by decide +kernel
theorem dX4_fits_30 : decode cX4_fits 30 = .ok (.ireturn, 1) := by decide +kernel
theorem dX4_fits_31 : decode cX4_fits 31 = .ok (.iinc 4 1, 3) := by decide +kernel
theorem dX4_fits_34 : decode cX4_fits 34 = .ok (.goto (-31), 3) := by decide +kernel
theorem dX4_fits_37 : decode cX4_fits 37 = .ok (.aload_n 0, 1) := by decide +kernel
theorem dX4_fits_38 : decode cX4_fits 38 = .ok (.iload_n 1, 1) := by decide +kernel
theorem dX4_fits_39 : decode cX4_fits 39 = .ok (.iload_n 2, 1) := by decide +kernel
theorem dX4_fits_40 : decode cX4_fits 40 = .ok (.iload_n 3, 1) := by decide +kernel
theorem dX4_fits_41 : decode cX4_fits 41 = .ok (.iload_n 1, 1) := by decide +kernel
theorem dX4_fits_42 : decode cX4_fits 42 = .ok (.iload_n 2, 1) := by decide +kernel
theorem dX4_fits_43 : decode cX4_fits 43 = .ok (.iload_n 3, 1) := by decide +kernel
theorem dX4_fits_44 : decode cX4_fits 44 = .ok (.invokevirtual 48, 3) := by decide +kernel
theorem dX4_fits_47 : decode cX4_fits 47 = .ok (.ireturn, 1) := by decide +kernel
theorem dX4_agree_0 : decode cX4_agree 0 = .ok (.iconst 0, 1) := by decide +kernel
theorem dX4_agree_1 : decode cX4_agree 1 = .ok (.istore 7, 2) := by decide +kernel
theorem dX4_agree_3 : decode cX4_agree 3 = .ok (.iload 7, 2) := by decide +kernel
theorem dX4_agree_5 : decode cX4_agree 5 = .ok (.aload_n 0, 1) := by decide +kernel
theorem dX4_agree_6 : decode cX4_agree 6 = .ok (.getfield 16, 3) := by decide +kernel
theorem dX4_agree_9 : decode cX4_agree 9 = .ok (.iload_n 1, 1) := by decide +kernel
theorem dX4_agree_10 : decode cX4_agree 10 = .ok (.iaload, 1) := by decide +kernel
theorem dX4_agree_11 : decode cX4_agree 11 = .ok (.if_icmp .ge 104, 3) := by decide +kernel
theorem dX4_agree_14 : decode cX4_agree 14 = .ok (.iconst 0, 1) := by decide +kernel
theorem dX4_agree_15 : decode cX4_agree 15 = .ok (.istore 8, 2) := by decide +kernel
theorem dX4_agree_17 : decode cX4_agree 17 = .ok (.iload 8, 2) := by decide +kernel
theorem dX4_agree_19 : decode cX4_agree 19 = .ok (.aload_n 0, 1) := by decide +kernel
theorem dX4_agree_20 : decode cX4_agree 20 = .ok (.getfield 16, 3) := by decide +kernel
theorem dX4_agree_23 : decode cX4_agree 23 = .ok (.iload 4, 2) := by decide +kernel
theorem dX4_agree_25 : decode cX4_agree 25 = .ok (.iaload, 1) := by decide +kernel
theorem dX4_agree_26 : decode cX4_agree 26 = .ok (.if_icmp .ge 83, 3) := by decide +kernel
theorem dX4_agree_29 : decode cX4_agree 29 = .ok (.aload_n 0, 1) := by decide +kernel
theorem dX4_agree_30 : decode cX4_agree 30 = .ok (.getfield 20, 3) := by decide +kernel
theorem dX4_agree_33 : decode cX4_agree 33 = .ok (.iload_n 2, 1) := by decide +kernel
theorem dX4_agree_34 : decode cX4_agree 34 = .ok (.iload_n 3, 1) := by decide +kernel
theorem dX4_agree_35 : decode cX4_agree 35 = .ok (.iload 7, 2) := by decide +kernel
theorem dX4_agree_37 : decode cX4_agree 37 = .ok (.iadd, 1) := by decide +kernel
theorem dX4_agree_38 : decode cX4_agree 38 = .ok (.invokevirtual 52, 3) := by decide +kernel
theorem dX4_agree_41 : decode cX4_agree 41 = .ok (.aload_n 0, 1) := by decide +kernel
theorem dX4_agree_42 : decode cX4_agree 42 = .ok (.getfield 20, 3) := by decide +kernel
theorem dX4_agree_45 : decode cX4_agree 45 = .ok (.iload 5, 2) := by decide +kernel
theorem dX4_agree_47 : decode cX4_agree 47 = .ok (.iload 6, 2) := by decide +kernel
theorem dX4_agree_49 : decode cX4_agree 49 = .ok (.iload 8, 2) := by decide +kernel
theorem dX4_agree_51 : decode cX4_agree 51 = .ok (.iadd, 1) := by decide +kernel
theorem dX4_agree_52 : decode cX4_agree 52 = .ok (.invokevirtual 52, 3) := by decide +kernel
theorem dX4_agree_55 : decode cX4_agree 55 = .ok (.if_icmp .ne 7, 3) := by decide +kernel
theorem dX4_agree_58 : decode cX4_agree 58 = .ok (.iconst 1, 1) := by decide +kernel
theorem dX4_agree_59 : decode cX4_agree 59 = .ok (.goto 4, 3) := by decide +kernel
theorem dX4_agree_62 : decode cX4_agree 62 = .ok (.iconst 0, 1) := by decide +kernel
theorem dX4_agree_63 : decode cX4_agree 63 = .ok (.istore 9, 2) := by decide +kernel
theorem dX4_agree_65 : decode cX4_agree 65 = .ok (.aload_n 0, 1) := by decide +kernel
theorem dX4_agree_66 : decode cX4_agree 66 = .ok (.getfield 13, 3) := by decide +kernel
theorem dX4_agree_69 : decode cX4_agree 69 = .ok (.iload_n 1, 1) := by decide +kernel
theorem dX4_agree_70 : decode cX4_agree 70 = .ok (.aaload, 1) := by decide +kernel
theorem dX4_agree_71 : decode cX4_agree 71 = .ok (.iload 7, 2) := by decide +kernel
theorem dX4_agree_73 : decode cX4_agree 73 = .ok (.iaload, 1) := by decide +kernel
theorem dX4_agree_74 : decode cX4_agree 74 = .ok (.aload_n 0, 1) := by decide +kernel
theorem dX4_agree_75 : decode cX4_agree 75 = .ok (.getfield 13, 3) := by decide +kernel
theorem dX4_agree_78 : decode cX4_agree 78 = .ok (.iload 4, 2) := by decide +kernel
theorem dX4_agree_80 : decode cX4_agree 80 = .ok (.aaload, 1) := by decide +kernel
theorem dX4_agree_81 : decode cX4_agree 81 = .ok (.iload 8, 2) := by decide +kernel
theorem dX4_agree_83 : decode cX4_agree 83 = .ok (.iaload, 1) := by decide +kernel
theorem dX4_agree_84 : decode cX4_agree 84 = .ok (.if_icmp .ne 7, 3) := by decide +kernel
theorem dX4_agree_87 : decode cX4_agree 87 = .ok (.iconst 1, 1) := by decide +kernel
theorem dX4_agree_88 : decode cX4_agree 88 = .ok (.goto 4, 3) := by decide +kernel
theorem dX4_agree_91 : decode cX4_agree 91 = .ok (.iconst 0, 1) := by decide +kernel
theorem dX4_agree_92 : decode cX4_agree 92 = .ok (.istore 10, 2) := by decide +kernel
theorem dX4_agree_94 : decode cX4_agree 94 = .ok (.iload 9, 2) := by decide +kernel
theorem dX4_agree_96 : decode cX4_agree 96 = .ok (.iload 10, 2) := by decide +kernel
theorem dX4_agree_98 : decode cX4_agree 98 = .ok (.if_icmp .eq 5, 3) := by decide +kernel
theorem dX4_agree_101 : decode cX4_agree 101 = .ok (.iconst 0, 1) := by decide +kernel
theorem dX4_agree_102 : decode cX4_agree 102 = .ok (.ireturn, 1) := by decide +kernel
theorem dX4_agree_103 : decode cX4_agree 103 = .ok (.iinc 8 1, 3) := by decide +kernel
theorem dX4_agree_106 : decode cX4_agree 106 = .ok (.goto (-89), 3) := by decide +kernel
theorem dX4_agree_109 : decode cX4_agree 109 = .ok (.iinc 7 1, 3) := by decide +kernel
theorem dX4_agree_112 : decode cX4_agree 112 = .ok (.goto (-109), 3) := by decide +kernel
theorem dX4_agree_115 : decode cX4_agree 115 = .ok (.iconst 1, 1) := by decide +kernel
theorem dX4_agree_116 : decode cX4_agree 116 = .ok (.ireturn, 1) := by decide +kernel
theorem dX5_init_0 : decode cX5_init 0 = .ok (.aload_n 0, 1) := by decide +kernel
theorem dX5_init_1 : decode cX5_init 1 = .ok (.invokespecial 3, 3) := by decide +kernel
theorem dX5_init_4 : decode cX5_init 4 = .ok (.aload_n 0, 1) := by decide +kernel
theorem dX5_init_5 : decode cX5_init 5 = .ok (.iconst 4, 1) := by decide +kernel
theorem dX5_init_6 : decode cX5_init 6 = .ok (.newarray .int, 2) := by decide +kernel
theorem dX5_init_8 : decode cX5_init 8 = .ok (.putfield 11, 3) := by decide +kernel
theorem dX5_init_11 : decode cX5_init 11 = .ok (.aload_n 0, 1) := by decide +kernel
theorem dX5_init_12 : decode cX5_init 12 = .ok (.iconst 4, 1) := by decide +kernel
theorem dX5_init_13 : decode cX5_init 13 = .ok (.newarray .int, 2) := by decide +kernel
theorem dX5_init_15 : decode cX5_init 15 = .ok (.dup, 1) := by decide +kernel
theorem dX5_init_16 : decode cX5_init 16 = .ok (.iconst 0, 1) := by decide +kernel
theorem dX5_init_17 : decode cX5_init 17 = .ok (.bipush (-4), 2) := by decide +kernel
theorem dX5_init_19 : decode cX5_init 19 = .ok (.iastore, 1) := by decide +kernel
theorem dX5_init_20 : decode cX5_init 20 = .ok (.dup, 1) := by decide +kernel
theorem dX5_init_21 : decode cX5_init 21 = .ok (.iconst 1, 1) := by decide +kernel
theorem dX5_init_22 : decode cX5_init 22 = .ok (.bipush (-4), 2) := by decide +kernel
theorem dX5_init_24 : decode cX5_init 24 = .ok (.iastore, 1) := by decide +kernel
theorem dX5_init_25 : decode cX5_init 25 = .ok (.dup, 1) := by decide +kernel
theorem dX5_init_26 : decode cX5_init 26 = .ok (.iconst 2, 1) := by decide +kernel
theorem dX5_init_27 : decode cX5_init 27 = .ok (.bipush (-4), 2) := by decide +kernel
theorem dX5_init_29 : decode cX5_init 29 = .ok (.iastore, 1) := by decide +kernel
theorem dX5_init_30 : decode cX5_init 30 = .ok (.dup, 1) := by decide +kernel
theorem dX5_init_31 : decode cX5_init 31 = .ok (.iconst 3, 1) := by decide +kernel
theorem dX5_init_32 : decode cX5_init 32 = .ok (.bipush (-4), 2) := by decide +kernel
theorem dX5_init_34 : decode cX5_init 34 = .ok (.iastore, 1) := by decide +kernel
theorem dX5_init_35 : decode cX5_init 35 = .ok (.putfield 15, 3) := by decide +kernel
theorem dX5_init_38 : decode cX5_init 38 = .ok (.aload_n 0, 1) := by decide +kernel
theorem dX5_init_39 : decode cX5_init 39 = .ok (.iconst 4, 1) := by decide +kernel
theorem dX5_init_40 : decode cX5_init 40 = .ok (.bipush 60, 2) := by decide +kernel
theorem dX5_init_42 : decode cX5_init 42 = .ok (.multianewarray 18 2, 4) := by decide +kernel
theorem dX5_init_46 : decode cX5_init 46 = .ok (.putfield 20, 3) := by decide +kernel
theorem dX5_init_49 : decode cX5_init 49 = .ok (.return_, 1) := by decide +kernel
theorem dX5_isSheet_0 : decode cX5_isSheet 0 = .ok (.iload_n 0, 1) := by decide +kernel
theorem dX5_isSheet_1 : decode cX5_isSheet 1 = .ok (.ifCond .lt 12, 3) := by decide +kernel
theorem dX5_isSheet_4 : decode cX5_isSheet 4 = .ok (.iload_n 0, 1) := by decide +kernel
theorem dX5_isSheet_5 : decode cX5_isSheet 5 = .ok (.iconst 4, 1) := by decide +kernel
theorem dX5_isSheet_6 : decode cX5_isSheet 6 = .ok (.if_icmp .ge 7, 3) := by decide +kernel
theorem dX5_isSheet_9 : decode cX5_isSheet 9 = .ok (.iconst 1, 1) := by decide +kernel
theorem dX5_isSheet_10 : decode cX5_isSheet 10 = .ok (.goto 4, 3) := by decide +kernel
theorem dX5_isSheet_13 : decode cX5_isSheet 13 = .ok (.iconst 0, 1) := by decide +kernel
theorem dX5_isSheet_14 : decode cX5_isSheet 14 = .ok (.ireturn, 1) := by decide +kernel
theorem dX5_isLane_0 : decode cX5_isLane 0 = .ok (.iload_n 0, 1) := by decide +kernel
theorem dX5_isLane_1 : decode cX5_isLane 1 = .ok (.ifCond .lt 12, 3) := by decide +kernel
theorem dX5_isLane_4 : decode cX5_isLane 4 = .ok (.iload_n 0, 1) := by decide +kernel
theorem dX5_isLane_5 : decode cX5_isLane 5 = .ok (.iconst 3, 1) := by decide +kernel
theorem dX5_isLane_6 : decode cX5_isLane 6 = .ok (.if_icmp .ge 7, 3) := by decide +kernel
theorem dX5_isLane_9 : decode cX5_isLane 9 = .ok (.iconst 1, 1) := by decide +kernel
theorem dX5_isLane_10 : decode cX5_isLane 10 = .ok (.goto 4, 3) := by decide +kernel
theorem dX5_isLane_13 : decode cX5_isLane 13 = .ok (.iconst 0, 1) := by decide +kernel
theorem dX5_isLane_14 : decode cX5_isLane 14 = .ok (.ireturn, 1) := by decide +kernel
theorem dX5_lengthOf_0 : decode cX5_lengthOf 0 = .ok (.iload_n 1, 1) := by decide +kernel
theorem dX5_lengthOf_1 : decode cX5_lengthOf 1 = .ok (.invokestatic 23, 3) := by decide +kernel
theorem dX5_lengthOf_4 : decode cX5_lengthOf 4 = .ok (.ifCond .eq 12, 3) := by decide +kernel
theorem dX5_lengthOf_7 : decode cX5_lengthOf 7 = .ok (.aload_n 0, 1) := by decide +kernel
theorem dX5_lengthOf_8 : decode cX5_lengthOf 8 = .ok (.getfield 15, 3) := by decide +kernel
theorem dX5_lengthOf_11 : decode cX5_lengthOf 11 = .ok (.iload_n 1, 1) := by decide +kernel
theorem dX5_lengthOf_12 : decode cX5_lengthOf 12 = .ok (.iaload, 1) := by decide +kernel
theorem dX5_lengthOf_13 : decode cX5_lengthOf 13 = .ok (.goto 5, 3) := by decide +kernel
theorem dX5_lengthOf_16 : decode cX5_lengthOf 16 = .ok (.bipush (-4), 2) := by decide +kernel
theorem dX5_lengthOf_18 : decode cX5_lengthOf 18 = .ok (.ireturn, 1) := by decide +kernel
theorem dX5_renew_0 : decode cX5_renew 0 = .ok (.iload_n 1, 1) := by decide +kernel
theorem dX5_renew_1 : decode cX5_renew 1 = .ok (.invokestatic 23, 3) := by decide +kernel
theorem dX5_renew_4 : decode cX5_renew 4 = .ok (.ifCond .eq 16, 3) := by decide +kernel
theorem dX5_renew_7 : decode cX5_renew 7 = .ok (.iload_n 2, 1) := by decide +kernel
theorem dX5_renew_8 : decode cX5_renew 8 = .ok (.invokestatic 27, 3) := by decide +kernel
theorem dX5_renew_11 : decode cX5_renew 11 = .ok (.ifCond .eq 9, 3) := by decide +kernel
theorem dX5_renew_14 : decode cX5_renew 14 = .ok (.iload_n 3, 1) := by decide +kernel
theorem dX5_renew_15 : decode cX5_renew 15 = .ok (.bipush 60, 2) := by decide +kernel
theorem dX5_renew_17 : decode cX5_renew 17 = .ok (.if_icmp .le 5, 3) := by decide +kernel
theorem dX5_renew_20 : decode cX5_renew 20 = .ok (.iconst (-1), 1) := by decide +kernel
theorem dX5_renew_21 : decode cX5_renew 21 = .ok (.ireturn, 1) := by decide +kernel
theorem dX5_renew_22 : decode cX5_renew 22 = .ok (.iload_n 3, 1) := by decide +kernel
theorem dX5_renew_23 : decode cX5_renew 23 = .ok (.ifCond .ge 6, 3) := by decide +kernel
theorem dX5_renew_26 : decode cX5_renew 26 = .ok (.bipush (-14), 2) := by decide +kernel
theorem dX5_renew_28 : decode cX5_renew 28 = .ok (.ireturn, 1) := by decide +kernel
theorem dX5_renew_29 : decode cX5_renew 29 = .ok (.aload_n 0, 1) := by decide +kernel
theorem dX5_renew_30 : decode cX5_renew 30 = .ok (.getfield 11, 3) := by decide +kernel
theorem dX5_renew_33 : decode cX5_renew 33 = .ok (.iload_n 1, 1) := by decide +kernel
theorem dX5_renew_34 : decode cX5_renew 34 = .ok (.iload_n 2, 1) := by decide +kernel
theorem dX5_renew_35 : decode cX5_renew 35 = .ok (.iastore, 1) := by decide +kernel
theorem dX5_renew_36 : decode cX5_renew 36 = .ok (.aload_n 0, 1) := by decide +kernel
theorem dX5_renew_37 : decode cX5_renew 37 = .ok (.getfield 15, 3) := by decide +kernel
theorem dX5_renew_40 : decode cX5_renew 40 = .ok (.iload_n 1, 1) := by decide +kernel
theorem dX5_renew_41 : decode cX5_renew 41 = .ok (.iload_n 3, 1) := by decide +kernel
theorem dX5_renew_42 : decode cX5_renew 42 = .ok (.iastore, 1) := by decide +kernel
theorem dX5_renew_43 : decode cX5_renew 43 = .ok (.iconst 0, 1) := by decide +kernel
theorem dX5_renew_44 : decode cX5_renew 44 = .ok (.istore 4, 2) := by decide +kernel
theorem dX5_renew_46 : decode cX5_renew 46 = .ok (.iload 4, 2) := by decide +kernel
theorem dX5_renew_48 : decode cX5_renew 48 = .ok (.bipush 60, 2) := by decide +kernel
theorem dX5_renew_50 : decode cX5_renew 50 = .ok (.if_icmp .ge 19, 3) := by decide +kernel
theorem dX5_renew_53 : decode cX5_renew 53 = .ok (.aload_n 0, 1) := by decide +kernel
theorem dX5_renew_54 : decode cX5_renew 54 = .ok (.getfield 20, 3) := by decide +kernel
theorem dX5_renew_57 : decode cX5_renew 57 = .ok (.iload_n 1, 1) := by decide +kernel
theorem dX5_renew_58 : decode cX5_renew 58 = .ok (.aaload, 1) := by decide +kernel
theorem dX5_renew_59 : decode cX5_renew 59 = .ok (.iload 4, 2) := by decide +kernel
theorem dX5_renew_61 : decode cX5_renew 61 = .ok (.iconst 0, 1) := by decide +kernel
theorem dX5_renew_62 : decode cX5_renew 62 = .ok (.iastore, 1) := by decide +kernel
theorem dX5_renew_63 : decode cX5_renew 63 = .ok (.iinc 4 1, 3) := by decide +kernel
theorem dX5_renew_66 : decode cX5_renew 66 = .ok (.goto (-20), 3) := by decide +kernel
theorem dX5_renew_69 : decode cX5_renew 69 = .ok (.iconst 1, 1) := by decide +kernel
theorem dX5_renew_70 : decode cX5_renew 70 = .ok (.ireturn, 1) := by decide +kernel
theorem dX5_put_0 : decode cX5_put 0 = .ok (.iload_n 1, 1) := by decide +kernel
theorem dX5_put_1 : decode cX5_put 1 = .ok (.invokestatic 23, 3) := by decide +kernel
theorem dX5_put_4 : decode cX5_put 4 = .ok (.ifCond .ne 5, 3) := by decide +kernel
theorem dX5_put_7 : decode cX5_put 7 = .ok (.iconst (-1), 1) := by decide +kernel
theorem dX5_put_8 : decode cX5_put 8 = .ok (.ireturn, 1) := by decide +kernel
theorem dX5_put_9 : decode cX5_put 9 = .ok (.aload_n 0, 1) := by decide +kernel
theorem dX5_put_10 : decode cX5_put 10 = .ok (.getfield 15, 3) := by decide +kernel
theorem dX5_put_13 : decode cX5_put 13 = .ok (.iload_n 1, 1) := by decide +kernel
theorem dX5_put_14 : decode cX5_put 14 = .ok (.iaload, 1) := by decide +kernel
theorem dX5_put_15 : decode cX5_put 15 = .ok (.bipush (-4), 2) := by decide +kernel
theorem dX5_put_17 : decode cX5_put 17 = .ok (.if_icmp .ne 6, 3) := by decide +kernel
theorem dX5_put_20 : decode cX5_put 20 = .ok (.bipush (-11), 2) := by decide +kernel
theorem dX5_put_22 : decode cX5_put 22 = .ok (.ireturn, 1) := by decide +kernel
theorem dX5_put_23 : decode cX5_put 23 = .ok (.aload_n 0, 1) := by decide +kernel
theorem dX5_put_24 : decode cX5_put 24 = .ok (.iload_n 1, 1) := by decide +kernel
theorem dX5_put_25 : decode cX5_put 25 = .ok (.iload_n 2, 1) := by decide +kernel
theorem dX5_put_26 : decode cX5_put 26 = .ok (.invokevirtual 30, 3) := by decide +kernel
theorem dX5_put_29 : decode cX5_put 29 = .ok (.ifCond .ne 6, 3) := by decide +kernel
theorem dX5_put_32 : decode cX5_put 32 = .ok (.bipush (-12), 2) := by decide +kernel
theorem dX5_put_34 : decode cX5_put 34 = .ok (.ireturn, 1) := by decide +kernel
theorem dX5_put_35 : decode cX5_put 35 = .ok (.aload_n 0, 1) := by decide +kernel
theorem dX5_put_36 : decode cX5_put 36 = .ok (.getfield 20, 3) := by decide +kernel
theorem dX5_put_39 : decode cX5_put 39 = .ok (.iload_n 1, 1) := by decide +kernel
theorem dX5_put_40 : decode cX5_put 40 = .ok (.aaload, 1) := by decide +kernel
theorem dX5_put_41 : decode cX5_put 41 = .ok (.iload_n 2, 1) := by decide +kernel
theorem dX5_put_42 : decode cX5_put 42 = .ok (.aload_n 0, 1) := by decide +kernel
theorem dX5_put_43 : decode cX5_put 43 = .ok (.getfield 11, 3) := by decide +kernel
theorem dX5_put_46 : decode cX5_put 46 = .ok (.iload_n 1, 1) := by decide +kernel
theorem dX5_put_47 : decode cX5_put 47 = .ok (.iaload, 1) := by decide +kernel
theorem dX5_put_48 : decode cX5_put 48 = .ok (.iload_n 3, 1) := by decide +kernel
theorem dX5_put_49 : decode cX5_put 49 = .ok (.invokestatic 34, 3) := by decide +kernel
theorem dX5_put_52 : decode cX5_put 52 = .ok (.iastore, 1) := by decide +kernel
theorem dX5_put_53 : decode cX5_put 53 = .ok (.iconst 1, 1) := by decide +kernel
theorem dX5_put_54 : decode cX5_put 54 = .ok (.ireturn, 1) := by decide +kernel
theorem dX5_lowestBits_0 : decode cX5_lowestBits 0 = .ok (.iload_n 0, 1) := by decide +kernel
theorem dX5_lowestBits_1 : decode cX5_lowestBits 1 = .ok (.lookupswitch 33 #[(0, 27), (1, 30)], 27) := by decide +kernel
theorem dX5_lowestBits_28 : decode cX5_lowestBits 28 = .ok (.iload_n 1, 1) := by decide +kernel
theorem dX5_lowestBits_29 : decode cX5_lowestBits 29 = .ok (.i2b, 1) := by decide +kernel
theorem dX5_lowestBits_30 : decode cX5_lowestBits 30 = .ok (.ireturn, 1) := by decide +kernel
theorem dX5_lowestBits_31 : decode cX5_lowestBits 31 = .ok (.iload_n 1, 1) := by decide +kernel
theorem dX5_lowestBits_32 : decode cX5_lowestBits 32 = .ok (.i2s, 1) := by decide +kernel
theorem dX5_lowestBits_33 : decode cX5_lowestBits 33 = .ok (.ireturn, 1) := by decide +kernel
theorem dX5_lowestBits_34 : decode cX5_lowestBits 34 = .ok (.iload_n 1, 1) := by decide +kernel
theorem dX5_lowestBits_35 : decode cX5_lowestBits 35 = .ok (.ireturn, 1) := by decide +kernel
theorem dX5_faultAs_0 : decode cX5_faultAs 0 = .ok (.aload_n 0, 1) := by decide +kernel
theorem dX5_faultAs_1 : decode cX5_faultAs 1 = .ok (.iload_n 1, 1) := by decide +kernel
theorem dX5_faultAs_2 : decode cX5_faultAs 2 = .ok (.invokevirtual 38, 3) := by decide +kernel
theorem dX5_faultAs_5 : decode cX5_faultAs 5 = .ok (.bipush (-4), 2) := by decide +kernel
theorem dX5_faultAs_7 : decode cX5_faultAs 7 = .ok (.if_icmp .ne 5, 3) := by decide +kernel
theorem dX5_faultAs_10 : decode cX5_faultAs 10 = .ok (.iconst 1, 1) := by decide +kernel
theorem dX5_faultAs_11 : decode cX5_faultAs 11 = .ok (.ireturn, 1) := by decide +kernel
theorem dX5_faultAs_12 : decode cX5_faultAs 12 = .ok (.aload_n 0, 1) := by decide +kernel
theorem dX5_faultAs_13 : decode cX5_faultAs 13 = .ok (.getfield 11, 3) := by decide +kernel
theorem dX5_faultAs_16 : decode cX5_faultAs 16 = .ok (.iload_n 1, 1) := by decide +kernel
theorem dX5_faultAs_17 : decode cX5_faultAs 17 = .ok (.iaload, 1) := by decide +kernel
theorem dX5_faultAs_18 : decode cX5_faultAs 18 = .ok (.iload_n 2, 1) := by decide +kernel
theorem dX5_faultAs_19 : decode cX5_faultAs 19 = .ok (.if_icmp .ne 7, 3) := by decide +kernel
theorem dX5_faultAs_22 : decode cX5_faultAs 22 = .ok (.iconst 0, 1) := by decide +kernel
theorem dX5_faultAs_23 : decode cX5_faultAs 23 = .ok (.goto 4, 3) := by decide +kernel
theorem dX5_faultAs_26 : decode cX5_faultAs 26 = .ok (.iconst 3, 1) := by decide +kernel
theorem dX5_faultAs_27 : decode cX5_faultAs 27 = .ok (.ireturn, 1) := by decide +kernel
theorem dX5_hasCell_0 : decode cX5_hasCell 0 = .ok (.iload_n 1, 1) := by decide +kernel
theorem dX5_hasCell_1 : decode cX5_hasCell 1 = .ok (.invokestatic 23, 3) := by decide +kernel
theorem dX5_hasCell_4 : decode cX5_hasCell 4 = .ok (.ifCond .eq 27, 3) := by decide +kernel
theorem dX5_hasCell_7 : decode cX5_hasCell 7 = .ok (.iload_n 2, 1) := by decide +kernel
theorem dX5_hasCell_8 : decode cX5_hasCell 8 = .ok (.ifCond .lt 23, 3) := by decide +kernel
theorem dX5_hasCell_11 : decode cX5_hasCell 11 = .ok (.iload_n 2, 1) := by decide +kernel
theorem dX5_hasCell_12 : decode cX5_hasCell 12 = .ok (.aload_n 0, 1) := by decide +kernel
theorem dX5_hasCell_13 : decode cX5_hasCell 13 = .ok (.getfield 15, 3) := by decide +kernel
theorem dX5_hasCell_16 : decode cX5_hasCell 16 = .ok (.iload_n 1, 1) := by decide +kernel
theorem dX5_hasCell_17 : decode cX5_hasCell 17 = .ok (.iaload, 1) := by decide +kernel
theorem dX5_hasCell_18 : decode cX5_hasCell 18 = .ok (.if_icmp .ge 13, 3) := by decide +kernel
theorem dX5_hasCell_21 : decode cX5_hasCell 21 = .ok (.iload_n 2, 1) := by decide +kernel
theorem dX5_hasCell_22 : decode cX5_hasCell 22 = .ok (.bipush 60, 2) := by decide +kernel
theorem dX5_hasCell_24 : decode cX5_hasCell 24 = .ok (.if_icmp .ge 7, 3) := by decide +kernel
theorem dX5_hasCell_27 : decode cX5_hasCell 27 = .ok (.iconst 1, 1) := by decide +kernel
theorem dX5_hasCell_28 : decode cX5_hasCell 28 = .ok (.goto 4, 3) := by decide +kernel
theorem dX5_hasCell_31 : decode cX5_hasCell 31 = .ok (.iconst 0, 1) := by decide +kernel
theorem dX5_hasCell_32 : decode cX5_hasCell 32 = .ok (.ireturn, 1) := by decide +kernel
theorem dX5_cellOf_0 : decode cX5_cellOf 0 = .ok (.aload_n 0, 1) := by decide +kernel
theorem dX5_cellOf_1 : decode cX5_cellOf 1 = .ok (.iload_n 1, 1) := by decide +kernel
theorem dX5_cellOf_2 : decode cX5_cellOf 2 = .ok (.iload_n 2, 1) := by decide +kernel
theorem dX5_cellOf_3 : decode cX5_cellOf 3 = .ok (.invokevirtual 30, 3) := by decide +kernel
theorem dX5_cellOf_6 : decode cX5_cellOf 6 = .ok (.ifCond .eq 14, 3) := by decide +kernel
theorem dX5_cellOf_9 : decode cX5_cellOf 9 = .ok (.aload_n 0, 1) := by decide +kernel
theorem dX5_cellOf_10 : decode cX5_cellOf 10 = .ok (.getfield 20, 3) := by decide +kernel
theorem dX5_cellOf_13 : decode cX5_cellOf 13 = .ok (.iload_n 1, 1) := by decide +kernel
theorem dX5_cellOf_14 : decode cX5_cellOf 14 = .ok (.aaload, 1) := by decide +kernel
theorem dX5_cellOf_15 : decode cX5_cellOf 15 = .ok (.iload_n 2, 1) := by decide +kernel
theorem dX5_cellOf_16 : decode cX5_cellOf 16 = .ok (.iaload, 1) := by decide +kernel
theorem dX5_cellOf_17 : decode cX5_cellOf 17 = .ok (.goto 4, 3) := by decide +kernel
theorem dX5_cellOf_20 : decode cX5_cellOf 20 = .ok (.iconst 0, 1) := by decide +kernel
theorem dX5_cellOf_21 : decode cX5_cellOf 21 = .ok (.ireturn, 1) := by decide +kernel
theorem dX6_init_0 : decode cX6_init 0 = .ok (.aload_n 0, 1) := by decide +kernel
theorem dX6_init_1 : decode cX6_init 1 = .ok (.invokespecial 3, 3) := by decide +kernel
theorem dX6_init_4 : decode cX6_init 4 = .ok (.aload_n 0, 1) := by decide +kernel
theorem dX6_init_5 : decode cX6_init 5 = .ok (.sipush 160, 3) := by decide +kernel
theorem dX6_init_8 : decode cX6_init 8 = .ok (.newarray .byte, 2) := by decide +kernel
theorem dX6_init_10 : decode cX6_init 10 = .ok (.putfield 11, 3) := by decide +kernel
theorem dX6_init_13 : decode cX6_init 13 = .ok (.return_, 1) := by decide +kernel
theorem dX6_length_0 : decode cX6_length 0 = .ok (.aload_n 0, 1) := by decide +kernel
theorem dX6_length_1 : decode cX6_length 1 = .ok (.getfield 15, 3) := by decide +kernel
theorem dX6_length_4 : decode cX6_length 4 = .ok (.ireturn, 1) := by decide +kernel
theorem dX6_append_0 : decode cX6_append 0 = .ok (.aload_n 0, 1) := by decide +kernel
theorem dX6_append_1 : decode cX6_append 1 = .ok (.getfield 15, 3) := by decide +kernel
theorem dX6_append_4 : decode cX6_append 4 = .ok (.sipush 152, 3) := by decide +kernel
theorem dX6_append_7 : decode cX6_append 7 = .ok (.if_icmp .le 6, 3) := by decide +kernel
theorem dX6_append_10 : decode cX6_append 10 = .ok (.bipush (-3), 2) := by decide +kernel
theorem dX6_append_12 : decode cX6_append 12 = .ok (.ireturn, 1) := by decide +kernel
theorem dX6_append_13 : decode cX6_append 13 = .ok (.iconst 0, 1) := by decide +kernel
theorem dX6_append_14 : decode cX6_append 14 = .ok (.istore_n 3, 1) := by decide +kernel
theorem dX6_append_15 : decode cX6_append 15 = .ok (.iload_n 3, 1) := by decide +kernel
theorem dX6_append_16 : decode cX6_append 16 = .ok (.bipush 8, 2) := by decide +kernel
theorem dX6_append_18 : decode cX6_append 18 = .ok (.if_icmp .ge 31, 3) := by decide +kernel
theorem dX6_append_21 : decode cX6_append 21 = .ok (.aload_n 0, 1) := by decide +kernel
theorem dX6_append_22 : decode cX6_append 22 = .ok (.getfield 11, 3) := by decide +kernel
theorem dX6_append_25 : decode cX6_append 25 = .ok (.aload_n 0, 1) := by decide +kernel
theorem dX6_append_26 : decode cX6_append 26 = .ok (.getfield 15, 3) := by decide +kernel
theorem dX6_append_29 : decode cX6_append 29 = .ok (.iload_n 3, 1) := by decide +kernel
theorem dX6_append_30 : decode cX6_append 30 = .ok (.iadd, 1) := by decide +kernel
theorem dX6_append_31 : decode cX6_append 31 = .ok (.lload_n 1, 1) := by decide +kernel
theorem dX6_append_32 : decode cX6_append 32 = .ok (.bipush 8, 2) := by decide +kernel
theorem dX6_append_34 : decode cX6_append 34 = .ok (.bipush 7, 2) := by decide +kernel
theorem dX6_append_36 : decode cX6_append 36 = .ok (.iload_n 3, 1) := by decide +kernel
theorem dX6_append_37 : decode cX6_append 37 = .ok (.isub, 1) := by decide +kernel
theorem dX6_append_38 : decode cX6_append 38 = .ok (.imul, 1) := by decide +kernel
theorem dX6_append_39 : decode cX6_append 39 = .ok (.lshr, 1) := by decide +kernel
theorem dX6_append_40 : decode cX6_append 40 = .ok (.l2i, 1) := by decide +kernel
theorem dX6_append_41 : decode cX6_append 41 = .ok (.i2b, 1) := by decide +kernel
theorem dX6_append_42 : decode cX6_append 42 = .ok (.bastore, 1) := by decide +kernel
theorem dX6_append_43 : decode cX6_append 43 = .ok (.iinc 3 1, 3) := by decide +kernel
theorem dX6_append_46 : decode cX6_append 46 = .ok (.goto (-31), 3) := by decide +kernel
theorem dX6_append_49 : decode cX6_append 49 = .ok (.aload_n 0, 1) := by decide +kernel
theorem dX6_append_50 : decode cX6_append 50 = .ok (.dup, 1) := by decide +kernel
theorem dX6_append_51 : decode cX6_append 51 = .ok (.getfield 15, 3) := by decide +kernel
theorem dX6_append_54 : decode cX6_append 54 = .ok (.bipush 8, 2) := by decide +kernel
theorem dX6_append_56 : decode cX6_append 56 = .ok (.iadd, 1) := by decide +kernel
theorem dX6_append_57 : decode cX6_append 57 = .ok (.putfield 15, 3) := by decide +kernel
theorem dX6_append_60 : decode cX6_append 60 = .ok (.aload_n 0, 1) := by decide +kernel
theorem dX6_append_61 : decode cX6_append 61 = .ok (.getfield 15, 3) := by decide +kernel
theorem dX6_append_64 : decode cX6_append 64 = .ok (.ireturn, 1) := by decide +kernel
theorem dX6_cut_0 : decode cX6_cut 0 = .ok (.iload_n 1, 1) := by decide +kernel
theorem dX6_cut_1 : decode cX6_cut 1 = .ok (.ifCond .lt 11, 3) := by decide +kernel
theorem dX6_cut_4 : decode cX6_cut 4 = .ok (.iload_n 1, 1) := by decide +kernel
theorem dX6_cut_5 : decode cX6_cut 5 = .ok (.aload_n 0, 1) := by decide +kernel
theorem dX6_cut_6 : decode cX6_cut 6 = .ok (.getfield 15, 3) := by decide +kernel
theorem dX6_cut_9 : decode cX6_cut 9 = .ok (.if_icmp .le 5, 3) := by decide +kernel
theorem dX6_cut_12 : decode cX6_cut 12 = .ok (.iconst (-1), 1) := by decide +kernel
theorem dX6_cut_13 : decode cX6_cut 13 = .ok (.ireturn, 1) := by decide +kernel
theorem dX6_cut_14 : decode cX6_cut 14 = .ok (.aload_n 0, 1) := by decide +kernel
theorem dX6_cut_15 : decode cX6_cut 15 = .ok (.getfield 15, 3) := by decide +kernel
theorem dX6_cut_18 : decode cX6_cut 18 = .ok (.istore_n 2, 1) := by decide +kernel
theorem dX6_cut_19 : decode cX6_cut 19 = .ok (.aload_n 0, 1) := by decide +kernel
theorem dX6_cut_20 : decode cX6_cut 20 = .ok (.iload_n 1, 1) := by decide +kernel
theorem dX6_cut_21 : decode cX6_cut 21 = .ok (.putfield 15, 3) := by decide +kernel
theorem dX6_cut_24 : decode cX6_cut 24 = .ok (.iload_n 2, 1) := by decide +kernel
theorem dX6_cut_25 : decode cX6_cut 25 = .ok (.ireturn, 1) := by decide +kernel
theorem dX6_rewind_0 : decode cX6_rewind 0 = .ok (.aload_n 0, 1) := by decide +kernel
theorem dX6_rewind_1 : decode cX6_rewind 1 = .ok (.iconst 0, 1) := by decide +kernel
theorem dX6_rewind_2 : decode cX6_rewind 2 = .ok (.putfield 19, 3) := by decide +kernel
theorem dX6_rewind_5 : decode cX6_rewind 5 = .ok (.return_, 1) := by decide +kernel
theorem dX6_start_0 : decode cX6_start 0 = .ok (.aload_n 0, 1) := by decide +kernel
theorem dX6_start_1 : decode cX6_start 1 = .ok (.getfield 22, 3) := by decide +kernel
theorem dX6_start_4 : decode cX6_start 4 = .ok (.ireturn, 1) := by decide +kernel
theorem dX6_value_0 : decode cX6_value 0 = .ok (.aload_n 0, 1) := by decide +kernel
theorem dX6_value_1 : decode cX6_value 1 = .ok (.getfield 25, 3) := by decide +kernel
theorem dX6_value_4 : decode cX6_value 4 = .ok (.ireturn, 1) := by decide +kernel
theorem dX6_nextToken_0 : decode cX6_nextToken 0 = .ok (.aload_n 0, 1) := by decide +kernel
theorem dX6_nextToken_1 : decode cX6_nextToken 1 = .ok (.getfield 19, 3) := by decide +kernel
theorem dX6_nextToken_4 : decode cX6_nextToken 4 = .ok (.aload_n 0, 1) := by decide +kernel
theorem dX6_nextToken_5 : decode cX6_nextToken 5 = .ok (.getfield 15, 3) := by decide +kernel
theorem dX6_nextToken_8 : decode cX6_nextToken 8 = .ok (.if_icmp .ge 30, 3) := by decide +kernel
theorem dX6_nextToken_11 : decode cX6_nextToken 11 = .ok (.aload_n 0, 1) := by decide +kernel
theorem dX6_nextToken_12 : decode cX6_nextToken 12 = .ok (.getfield 11, 3) := by decide +kernel
theorem dX6_nextToken_15 : decode cX6_nextToken 15 = .ok (.aload_n 0, 1) := by decide +kernel
theorem dX6_nextToken_16 : decode cX6_nextToken 16 = .ok (.getfield 19, 3) := by decide +kernel
theorem dX6_nextToken_19 : decode cX6_nextToken 19 = .ok (.baload, 1) := by decide +kernel
theorem dX6_nextToken_20 : decode cX6_nextToken 20 = .ok (.bipush 32, 2) := by decide +kernel
theorem dX6_nextToken_22 : decode cX6_nextToken 22 = .ok (.if_icmp .ne 16, 3) := by decide +kernel
theorem dX6_nextToken_25 : decode cX6_nextToken 25 = .ok (.aload_n 0, 1) := by decide +kernel
theorem dX6_nextToken_26 : decode cX6_nextToken 26 = .ok (.dup, 1) := by decide +kernel
theorem dX6_nextToken_27 : decode cX6_nextToken 27 = .ok (.getfield 19, 3) := by decide +kernel
theorem dX6_nextToken_30 : decode cX6_nextToken 30 = .ok (.iconst 1, 1) := by decide +kernel
theorem dX6_nextToken_31 : decode cX6_nextToken 31 = .ok (.iadd, 1) := by decide +kernel
theorem dX6_nextToken_32 : decode cX6_nextToken 32 = .ok (.putfield 19, 3) := by decide +kernel
theorem dX6_nextToken_35 : decode cX6_nextToken 35 = .ok (.goto (-35), 3) := by decide +kernel
theorem dX6_nextToken_38 : decode cX6_nextToken 38 = .ok (.aload_n 0, 1) := by decide +kernel
theorem dX6_nextToken_39 : decode cX6_nextToken 39 = .ok (.aload_n 0, 1) := by decide +kernel
theorem dX6_nextToken_40 : decode cX6_nextToken 40 = .ok (.getfield 19, 3) := by decide +kernel
theorem dX6_nextToken_43 : decode cX6_nextToken 43 = .ok (.putfield 22, 3) := by decide +kernel
theorem dX6_nextToken_46 : decode cX6_nextToken 46 = .ok (.aload_n 0, 1) := by decide +kernel
theorem dX6_nextToken_47 : decode cX6_nextToken 47 = .ok (.getfield 19, 3) := by decide +kernel
theorem dX6_nextToken_50 : decode cX6_nextToken 50 = .ok (.aload_n 0, 1) := by decide +kernel
theorem dX6_nextToken_51 : decode cX6_nextToken 51 = .ok (.getfield 15, 3) := by decide +kernel
theorem dX6_nextToken_54 : decode cX6_nextToken 54 = .ok (.if_icmp .lt 5, 3) := by decide +kernel
theorem dX6_nextToken_57 : decode cX6_nextToken 57 = .ok (.iconst 1, 1) := by decide +kernel
theorem dX6_nextToken_58 : decode cX6_nextToken 58 = .ok (.ireturn, 1) := by decide +kernel
theorem dX6_nextToken_59 : decode cX6_nextToken 59 = .ok (.aload_n 0, 1) := by decide +kernel
theorem dX6_nextToken_60 : decode cX6_nextToken 60 = .ok (.getfield 11, 3) := by decide +kernel
theorem dX6_nextToken_63 : decode cX6_nextToken 63 = .ok (.aload_n 0, 1) := by decide +kernel
theorem dX6_nextToken_64 : decode cX6_nextToken 64 = .ok (.getfield 19, 3) := by decide +kernel
theorem dX6_nextToken_67 : decode cX6_nextToken 67 = .ok (.baload, 1) := by decide +kernel
theorem dX6_nextToken_68 : decode cX6_nextToken 68 = .ok (.istore_n 1, 1) := by decide +kernel
theorem dX6_nextToken_69 : decode cX6_nextToken 69 = .ok (.iload_n 1, 1) := by decide +kernel
theorem dX6_nextToken_70 : decode cX6_nextToken 70 = .ok (.invokestatic 28, 3) := by decide +kernel
theorem dX6_nextToken_73 : decode cX6_nextToken 73 = .ok (.ifCond .eq 8, 3) := by decide +kernel
theorem dX6_nextToken_76 : decode cX6_nextToken 76 = .ok (.aload_n 0, 1) := by decide +kernel
theorem dX6_nextToken_77 : decode cX6_nextToken 77 = .ok (.invokevirtual 32, 3) := by decide +kernel
theorem dX6_nextToken_80 : decode cX6_nextToken 80 = .ok (.ireturn, 1) := by decide +kernel
theorem dX6_nextToken_81 : decode cX6_nextToken 81 = .ok (.iload_n 1, 1) := by decide +kernel
theorem dX6_nextToken_82 : decode cX6_nextToken 82 = .ok (.invokestatic 36, 3) := by decide +kernel
theorem dX6_nextToken_85 : decode cX6_nextToken 85 = .ok (.ifCond .eq 8, 3) := by decide +kernel
theorem dX6_nextToken_88 : decode cX6_nextToken 88 = .ok (.aload_n 0, 1) := by decide +kernel
theorem dX6_nextToken_89 : decode cX6_nextToken 89 = .ok (.invokevirtual 39, 3) := by decide +kernel
theorem dX6_nextToken_92 : decode cX6_nextToken 92 = .ok (.ireturn, 1) := by decide +kernel
theorem dX6_nextToken_93 : decode cX6_nextToken 93 = .ok (.aload_n 0, 1) := by decide +kernel
theorem dX6_nextToken_94 : decode cX6_nextToken 94 = .ok (.dup, 1) := by decide +kernel
theorem dX6_nextToken_95 : decode cX6_nextToken 95 = .ok (.getfield 19, 3) := by decide +kernel
theorem dX6_nextToken_98 : decode cX6_nextToken 98 = .ok (.iconst 1, 1) := by decide +kernel
theorem dX6_nextToken_99 : decode cX6_nextToken 99 = .ok (.iadd, 1) := by decide +kernel
theorem dX6_nextToken_100 : decode cX6_nextToken 100 = .ok (.putfield 19, 3) := by decide +kernel
theorem dX6_nextToken_103 : decode cX6_nextToken 103 = .ok (.iload_n 1, 1) := by decide +kernel
theorem dX6_nextToken_104 : decode cX6_nextToken 104 = .ok (.bipush 44, 2) := by decide +kernel
theorem dX6_nextToken_106 : decode cX6_nextToken 106 = .ok (.if_icmp .ne 5, 3) := by decide +kernel
theorem dX6_nextToken_109 : decode cX6_nextToken 109 = .ok (.iconst 5, 1) := by decide +kernel
theorem dX6_nextToken_110 : decode cX6_nextToken 110 = .ok (.ireturn, 1) := by decide +kernel
theorem dX6_nextToken_111 : decode cX6_nextToken 111 = .ok (.iload_n 1, 1) := by decide +kernel
theorem dX6_nextToken_112 : decode cX6_nextToken 112 = .ok (.bipush 59, 2) := by decide +kernel
theorem dX6_nextToken_114 : decode cX6_nextToken 114 = .ok (.if_icmp .ne 8, 3) := by decide +kernel
theorem dX6_nextToken_117 : decode cX6_nextToken 117 = .ok (.bipush 6, 2) := by decide +kernel
theorem dX6_nextToken_119 : decode cX6_nextToken 119 = .ok (.goto 4, 3) := by decide +kernel
theorem dX6_nextToken_122 : decode cX6_nextToken 122 = .ok (.iconst 0, 1) := by decide +kernel
theorem dX6_nextToken_123 : decode cX6_nextToken 123 = .ok (.ireturn, 1) := by decide +kernel
theorem dX6_isLetter_0 : decode cX6_isLetter 0 = .ok (.iload_n 0, 1) := by decide +kernel
theorem dX6_isLetter_1 : decode cX6_isLetter 1 = .ok (.bipush 97, 2) := by decide +kernel
theorem dX6_isLetter_3 : decode cX6_isLetter 3 = .ok (.if_icmp .lt 13, 3) := by decide +kernel
theorem dX6_isLetter_6 : decode cX6_isLetter 6 = .ok (.iload_n 0, 1) := by decide +kernel
theorem dX6_isLetter_7 : decode cX6_isLetter 7 = .ok (.bipush 122, 2) := by decide +kernel
theorem dX6_isLetter_9 : decode cX6_isLetter 9 = .ok (.if_icmp .gt 7, 3) := by decide +kernel
theorem dX6_isLetter_12 : decode cX6_isLetter 12 = .ok (.iconst 1, 1) := by decide +kernel
theorem dX6_isLetter_13 : decode cX6_isLetter 13 = .ok (.goto 4, 3) := by decide +kernel
theorem dX6_isLetter_16 : decode cX6_isLetter 16 = .ok (.iconst 0, 1) := by decide +kernel
theorem dX6_isLetter_17 : decode cX6_isLetter 17 = .ok (.ireturn, 1) := by decide +kernel
theorem dX6_isFigure_0 : decode cX6_isFigure 0 = .ok (.iload_n 0, 1) := by decide +kernel
theorem dX6_isFigure_1 : decode cX6_isFigure 1 = .ok (.bipush 48, 2) := by decide +kernel
theorem dX6_isFigure_3 : decode cX6_isFigure 3 = .ok (.if_icmp .lt 13, 3) := by decide +kernel
theorem dX6_isFigure_6 : decode cX6_isFigure 6 = .ok (.iload_n 0, 1) := by decide +kernel
theorem dX6_isFigure_7 : decode cX6_isFigure 7 = .ok (.bipush 57, 2) := by decide +kernel
theorem dX6_isFigure_9 : decode cX6_isFigure 9 = .ok (.if_icmp .gt 7, 3) := by decide +kernel
theorem dX6_isFigure_12 : decode cX6_isFigure 12 = .ok (.iconst 1, 1) := by decide +kernel
theorem dX6_isFigure_13 : decode cX6_isFigure 13 = .ok (.goto 4, 3) := by decide +kernel
theorem dX6_isFigure_16 : decode cX6_isFigure 16 = .ok (.iconst 0, 1) := by decide +kernel
theorem dX6_isFigure_17 : decode cX6_isFigure 17 = .ok (.ireturn, 1) := by decide +kernel
theorem dX6_takeName_0 : decode cX6_takeName 0 = .ok (.aload_n 0, 1) := by decide +kernel
theorem dX6_takeName_1 : decode cX6_takeName 1 = .ok (.getfield 19, 3) := by decide +kernel
theorem dX6_takeName_4 : decode cX6_takeName 4 = .ok (.aload_n 0, 1) := by decide +kernel
theorem dX6_takeName_5 : decode cX6_takeName 5 = .ok (.getfield 15, 3) := by decide +kernel
theorem dX6_takeName_8 : decode cX6_takeName 8 = .ok (.if_icmp .ge 31, 3) := by decide +kernel
theorem dX6_takeName_11 : decode cX6_takeName 11 = .ok (.aload_n 0, 1) := by decide +kernel
theorem dX6_takeName_12 : decode cX6_takeName 12 = .ok (.getfield 11, 3) := by decide +kernel
theorem dX6_takeName_15 : decode cX6_takeName 15 = .ok (.aload_n 0, 1) := by decide +kernel
theorem dX6_takeName_16 : decode cX6_takeName 16 = .ok (.getfield 19, 3) := by decide +kernel
theorem dX6_takeName_19 : decode cX6_takeName 19 = .ok (.baload, 1) := by decide +kernel
theorem dX6_takeName_20 : decode cX6_takeName 20 = .ok (.invokestatic 28, 3) := by decide +kernel
theorem dX6_takeName_23 : decode cX6_takeName 23 = .ok (.ifCond .eq 16, 3) := by decide +kernel
theorem dX6_takeName_26 : decode cX6_takeName 26 = .ok (.aload_n 0, 1) := by decide +kernel
theorem dX6_takeName_27 : decode cX6_takeName 27 = .ok (.dup, 1) := by decide +kernel
theorem dX6_takeName_28 : decode cX6_takeName 28 = .ok (.getfield 19, 3) := by decide +kernel
theorem dX6_takeName_31 : decode cX6_takeName 31 = .ok (.iconst 1, 1) := by decide +kernel
theorem dX6_takeName_32 : decode cX6_takeName 32 = .ok (.iadd, 1) := by decide +kernel
theorem dX6_takeName_33 : decode cX6_takeName 33 = .ok (.putfield 19, 3) := by decide +kernel
theorem dX6_takeName_36 : decode cX6_takeName 36 = .ok (.goto (-36), 3) := by decide +kernel
theorem dX6_takeName_39 : decode cX6_takeName 39 = .ok (.aload_n 0, 1) := by decide +kernel
theorem dX6_takeName_40 : decode cX6_takeName 40 = .ok (.ldc 42, 2) := by decide +kernel
theorem dX6_takeName_42 : decode cX6_takeName 42 = .ok (.invokevirtual 44, 3) := by decide +kernel
theorem dX6_takeName_45 : decode cX6_takeName 45 = .ok (.ifCond .eq 5, 3) := by decide +kernel
theorem dX6_takeName_48 : decode cX6_takeName 48 = .ok (.iconst 3, 1) := by decide +kernel
theorem dX6_takeName_49 : decode cX6_takeName 49 = .ok (.ireturn, 1) := by decide +kernel
theorem dX6_takeName_50 : decode cX6_takeName 50 = .ok (.iconst 0, 1) := by decide +kernel
theorem dX6_takeName_51 : decode cX6_takeName 51 = .ok (.istore_n 1, 1) := by decide +kernel
theorem dX6_takeName_52 : decode cX6_takeName 52 = .ok (.iload_n 1, 1) := by decide +kernel
theorem dX6_takeName_53 : decode cX6_takeName 53 = .ok (.iconst 5, 1) := by decide +kernel
theorem dX6_takeName_54 : decode cX6_takeName 54 = .ok (.if_icmp .ge 30, 3) := by decide +kernel
theorem dX6_takeName_57 : decode cX6_takeName 57 = .ok (.aload_n 0, 1) := by decide +kernel
theorem dX6_takeName_58 : decode cX6_takeName 58 = .ok (.iload_n 1, 1) := by decide +kernel
theorem dX6_takeName_59 : decode cX6_takeName 59 = .ok (.invokestatic 48, 3) := by decide +kernel
theorem dX6_takeName_62 : decode cX6_takeName 62 = .ok (.invokevirtual 44, 3) := by decide +kernel
theorem dX6_takeName_65 : decode cX6_takeName 65 = .ok (.ifCond .ne 6, 3) := by decide +kernel
theorem dX6_takeName_68 : decode cX6_takeName 68 = .ok (.goto 10, 3) := by decide +kernel
theorem dX6_takeName_71 : decode cX6_takeName 71 = .ok (.aload_n 0, 1) := by decide +kernel
theorem dX6_takeName_72 : decode cX6_takeName 72 = .ok (.iload_n 1, 1) := by decide +kernel
theorem dX6_takeName_73 : decode cX6_takeName 73 = .ok (.putfield 25, 3) := by decide +kernel
theorem dX6_takeName_76 : decode cX6_takeName 76 = .ok (.iconst 2, 1) := by decide +kernel
theorem dX6_takeName_77 : decode cX6_takeName 77 = .ok (.ireturn, 1) := by decide +kernel
theorem dX6_takeName_78 : decode cX6_takeName 78 = .ok (.iinc 1 1, 3) := by decide +kernel
theorem dX6_takeName_81 : decode cX6_takeName 81 = .ok (.goto (-29), 3) := by decide +kernel
theorem dX6_takeName_84 : decode cX6_takeName 84 = .ok (.iconst 0, 1) := by decide +kernel
theorem dX6_takeName_85 : decode cX6_takeName 85 = .ok (.ireturn, 1) := by decide +kernel
theorem dX6_kindName_0 : decode cX6_kindName 0 = .ok (.iload_n 0, 1) := by decide +kernel
theorem dX6_kindName_1 : decode cX6_kindName 1 = .ok (.tableswitch 43 0 3 #[31, 34, 37, 40], 31) := by decide +kernel
theorem dX6_kindName_32 : decode cX6_kindName 32 = .ok (.ldc 52, 2) := by decide +kernel
theorem dX6_kindName_34 : decode cX6_kindName 34 = .ok (.areturn, 1) := by decide +kernel
theorem dX6_kindName_35 : decode cX6_kindName 35 = .ok (.ldc 54, 2) := by decide +kernel
theorem dX6_kindName_37 : decode cX6_kindName 37 = .ok (.areturn, 1) := by decide +kernel
theorem dX6_kindName_38 : decode cX6_kindName 38 = .ok (.ldc 56, 2) := by decide +kernel
theorem dX6_kindName_40 : decode cX6_kindName 40 = .ok (.areturn, 1) := by decide +kernel
theorem dX6_kindName_41 : decode cX6_kindName 41 = .ok (.ldc 58, 2) := by decide +kernel
theorem dX6_kindName_43 : decode cX6_kindName 43 = .ok (.areturn, 1) := by decide +kernel
theorem dX6_kindName_44 : decode cX6_kindName 44 = .ok (.ldc 60, 2) := by decide +kernel
theorem dX6_kindName_46 : decode cX6_kindName 46 = .ok (.areturn, 1) := by decide +kernel
theorem dX6_reads_0 : decode cX6_reads 0 = .ok (.aload_n 0, 1) := by decide +kernel
theorem dX6_reads_1 : decode cX6_reads 1 = .ok (.getfield 19, 3) := by decide +kernel
theorem dX6_reads_4 : decode cX6_reads 4 = .ok (.aload_n 0, 1) := by decide +kernel
theorem dX6_reads_5 : decode cX6_reads 5 = .ok (.getfield 22, 3) := by decide +kernel
theorem dX6_reads_8 : decode cX6_reads 8 = .ok (.isub, 1) := by decide +kernel
theorem dX6_reads_9 : decode cX6_reads 9 = .ok (.aload_n 1, 1) := by decide +kernel
theorem dX6_reads_10 : decode cX6_reads 10 = .ok (.invokevirtual 62, 3) := by decide +kernel
theorem dX6_reads_13 : decode cX6_reads 13 = .ok (.if_icmp .eq 5, 3) := by decide +kernel
theorem dX6_reads_16 : decode cX6_reads 16 = .ok (.iconst 0, 1) := by decide +kernel
theorem dX6_reads_17 : decode cX6_reads 17 = .ok (.ireturn, 1) := by decide +kernel
theorem dX6_reads_18 : decode cX6_reads 18 = .ok (.iconst 0, 1) := by decide +kernel
theorem dX6_reads_19 : decode cX6_reads 19 = .ok (.istore_n 2, 1) := by decide +kernel
theorem dX6_reads_20 : decode cX6_reads 20 = .ok (.iload_n 2, 1) := by decide +kernel
theorem dX6_reads_21 : decode cX6_reads 21 = .ok (.aload_n 1, 1) := by decide +kernel
theorem dX6_reads_22 : decode cX6_reads 22 = .ok (.invokevirtual 62, 3) := by decide +kernel
theorem dX6_reads_25 : decode cX6_reads 25 = .ok (.if_icmp .ge 30, 3) := by decide +kernel
theorem dX6_reads_28 : decode cX6_reads 28 = .ok (.aload_n 0, 1) := by decide +kernel
theorem dX6_reads_29 : decode cX6_reads 29 = .ok (.getfield 11, 3) := by decide +kernel
theorem dX6_reads_32 : decode cX6_reads 32 = .ok (.aload_n 0, 1) := by decide +kernel
theorem dX6_reads_33 : decode cX6_reads 33 = .ok (.getfield 22, 3) := by decide +kernel
theorem dX6_reads_36 : decode cX6_reads 36 = .ok (.iload_n 2, 1) := by decide +kernel
theorem dX6_reads_37 : decode cX6_reads 37 = .ok (.iadd, 1) := by decide +kernel
theorem dX6_reads_38 : decode cX6_reads 38 = .ok (.baload, 1) := by decide +kernel
theorem dX6_reads_39 : decode cX6_reads 39 = .ok (.aload_n 1, 1) := by decide +kernel
theorem dX6_reads_40 : decode cX6_reads 40 = .ok (.iload_n 2, 1) := by decide +kernel
theorem dX6_reads_41 : decode cX6_reads 41 = .ok (.invokevirtual 66, 3) := by decide +kernel
theorem dX6_reads_44 : decode cX6_reads 44 = .ok (.if_icmp .eq 5, 3) := by decide +kernel
theorem dX6_reads_47 : decode cX6_reads 47 = .ok (.iconst 0, 1) := by decide +kernel
theorem dX6_reads_48 : decode cX6_reads 48 = .ok (.ireturn, 1) := by decide +kernel
theorem dX6_reads_49 : decode cX6_reads 49 = .ok (.iinc 2 1, 3) := by decide +kernel
theorem dX6_reads_52 : decode cX6_reads 52 = .ok (.goto (-32), 3) := by decide +kernel
theorem dX6_reads_55 : decode cX6_reads 55 = .ok (.iconst 1, 1) := by decide +kernel
theorem dX6_reads_56 : decode cX6_reads 56 = .ok (.ireturn, 1) := by decide +kernel
theorem dX6_takeNumber_0 : decode cX6_takeNumber 0 = .ok (.aload_n 0, 1) := by decide +kernel
theorem dX6_takeNumber_1 : decode cX6_takeNumber 1 = .ok (.iconst 0, 1) := by decide +kernel
theorem dX6_takeNumber_2 : decode cX6_takeNumber 2 = .ok (.putfield 25, 3) := by decide +kernel
theorem dX6_takeNumber_5 : decode cX6_takeNumber 5 = .ok (.aload_n 0, 1) := by decide +kernel
theorem dX6_takeNumber_6 : decode cX6_takeNumber 6 = .ok (.getfield 19, 3) := by decide +kernel
theorem dX6_takeNumber_9 : decode cX6_takeNumber 9 = .ok (.aload_n 0, 1) := by decide +kernel
theorem dX6_takeNumber_10 : decode cX6_takeNumber 10 = .ok (.getfield 15, 3) := by decide +kernel
theorem dX6_takeNumber_13 : decode cX6_takeNumber 13 = .ok (.if_icmp .ge 55, 3) := by decide +kernel
theorem dX6_takeNumber_16 : decode cX6_takeNumber 16 = .ok (.aload_n 0, 1) := by decide +kernel
theorem dX6_takeNumber_17 : decode cX6_takeNumber 17 = .ok (.getfield 11, 3) := by decide +kernel
theorem dX6_takeNumber_20 : decode cX6_takeNumber 20 = .ok (.aload_n 0, 1) := by decide +kernel
theorem dX6_takeNumber_21 : decode cX6_takeNumber 21 = .ok (.getfield 19, 3) := by decide +kernel
theorem dX6_takeNumber_24 : decode cX6_takeNumber 24 = .ok (.baload, 1) := by decide +kernel
theorem dX6_takeNumber_25 : decode cX6_takeNumber 25 = .ok (.invokestatic 36, 3) := by decide +kernel
theorem dX6_takeNumber_28 : decode cX6_takeNumber 28 = .ok (.ifCond .eq 40, 3) := by decide +kernel
theorem dX6_takeNumber_31 : decode cX6_takeNumber 31 = .ok (.aload_n 0, 1) := by decide +kernel
theorem dX6_takeNumber_32 : decode cX6_takeNumber 32 = .ok (.aload_n 0, 1) := by decide +kernel
theorem dX6_takeNumber_33 : decode cX6_takeNumber 33 = .ok (.getfield 25, 3) := by decide +kernel
theorem dX6_takeNumber_36 : decode cX6_takeNumber 36 = .ok (.bipush 10, 2) := by decide +kernel
theorem dX6_takeNumber_38 : decode cX6_takeNumber 38 = .ok (.imul, 1) := by decide +kernel
theorem dX6_takeNumber_39 : decode cX6_takeNumber 39 = .ok (.aload_n 0, 1) := by decide +kernel
theorem dX6_takeNumber_40 : decode cX6_takeNumber 40 = .ok (.getfield 11, 3) := by decide +kernel
theorem dX6_takeNumber_43 : decode cX6_takeNumber 43 = .ok (.aload_n 0, 1) := by decide +kernel
theorem dX6_takeNumber_44 : decode cX6_takeNumber 44 = .ok (.getfield 19, 3) := by decide +kernel
theorem dX6_takeNumber_47 : decode cX6_takeNumber 47 = .ok (.baload, 1) := by decide +kernel
theorem dX6_takeNumber_48 : decode cX6_takeNumber 48 = .ok (.bipush 48, 2) := by decide +kernel
theorem dX6_takeNumber_50 : decode cX6_takeNumber 50 = .ok (.isub, 1) := by decide +kernel
theorem dX6_takeNumber_51 : decode cX6_takeNumber 51 = .ok (.iadd, 1) := by decide +kernel
theorem dX6_takeNumber_52 : decode cX6_takeNumber 52 = .ok (.putfield 25, 3) := by decide +kernel
theorem dX6_takeNumber_55 : decode cX6_takeNumber 55 = .ok (.aload_n 0, 1) := by decide +kernel
theorem dX6_takeNumber_56 : decode cX6_takeNumber 56 = .ok (.dup, 1) := by decide +kernel
theorem dX6_takeNumber_57 : decode cX6_takeNumber 57 = .ok (.getfield 19, 3) := by decide +kernel
theorem dX6_takeNumber_60 : decode cX6_takeNumber 60 = .ok (.iconst 1, 1) := by decide +kernel
theorem dX6_takeNumber_61 : decode cX6_takeNumber 61 = .ok (.iadd, 1) := by decide +kernel
theorem dX6_takeNumber_62 : decode cX6_takeNumber 62 = .ok (.putfield 19, 3) := by decide +kernel
theorem dX6_takeNumber_65 : decode cX6_takeNumber 65 = .ok (.goto (-60), 3) := by decide +kernel
theorem dX6_takeNumber_68 : decode cX6_takeNumber 68 = .ok (.aload_n 0, 1) := by decide +kernel
theorem dX6_takeNumber_69 : decode cX6_takeNumber 69 = .ok (.getfield 19, 3) := by decide +kernel
theorem dX6_takeNumber_72 : decode cX6_takeNumber 72 = .ok (.aload_n 0, 1) := by decide +kernel
theorem dX6_takeNumber_73 : decode cX6_takeNumber 73 = .ok (.getfield 22, 3) := by decide +kernel
theorem dX6_takeNumber_76 : decode cX6_takeNumber 76 = .ok (.isub, 1) := by decide +kernel
theorem dX6_takeNumber_77 : decode cX6_takeNumber 77 = .ok (.iconst 2, 1) := by decide +kernel
theorem dX6_takeNumber_78 : decode cX6_takeNumber 78 = .ok (.if_icmp .le 7, 3) := by decide +kernel
theorem dX6_takeNumber_81 : decode cX6_takeNumber 81 = .ok (.iconst 0, 1) := by decide +kernel
theorem dX6_takeNumber_82 : decode cX6_takeNumber 82 = .ok (.goto 4, 3) := by decide +kernel
theorem dX6_takeNumber_85 : decode cX6_takeNumber 85 = .ok (.iconst 4, 1) := by decide +kernel
theorem dX6_takeNumber_86 : decode cX6_takeNumber 86 = .ok (.ireturn, 1) := by decide +kernel
theorem dX7_init_0 : decode cX7_init 0 = .ok (.aload_n 0, 1) := by decide +kernel
theorem dX7_init_1 : decode cX7_init 1 = .ok (.invokespecial 5, 3) := by decide +kernel
theorem dX7_init_4 : decode cX7_init 4 = .ok (.aload_n 0, 1) := by decide +kernel
theorem dX7_init_5 : decode cX7_init 5 = .ok (.bipush 24, 2) := by decide +kernel
theorem dX7_init_7 : decode cX7_init 7 = .ok (.newarray .int, 2) := by decide +kernel
theorem dX7_init_9 : decode cX7_init 9 = .ok (.putfield 11, 3) := by decide +kernel
theorem dX7_init_12 : decode cX7_init 12 = .ok (.aload_n 0, 1) := by decide +kernel
theorem dX7_init_13 : decode cX7_init 13 = .ok (.bipush 8, 2) := by decide +kernel
theorem dX7_init_15 : decode cX7_init 15 = .ok (.bipush 24, 2) := by decide +kernel
theorem dX7_init_17 : decode cX7_init 17 = .ok (.multianewarray 15 2, 4) := by decide +kernel
theorem dX7_init_21 : decode cX7_init 21 = .ok (.putfield 17, 3) := by decide +kernel
theorem dX7_init_24 : decode cX7_init 24 = .ok (.aload_n 0, 1) := by decide +kernel
theorem dX7_init_25 : decode cX7_init 25 = .ok (.bipush 8, 2) := by decide +kernel
theorem dX7_init_27 : decode cX7_init 27 = .ok (.newarray .int, 2) := by decide +kernel
theorem dX7_init_29 : decode cX7_init 29 = .ok (.putfield 20, 3) := by decide +kernel
theorem dX7_init_32 : decode cX7_init 32 = .ok (.aload_n 0, 1) := by decide +kernel
theorem dX7_init_33 : decode cX7_init 33 = .ok (.bipush 96, 2) := by decide +kernel
theorem dX7_init_35 : decode cX7_init 35 = .ok (.newarray .int, 2) := by decide +kernel
theorem dX7_init_37 : decode cX7_init 37 = .ok (.putfield 23, 3) := by decide +kernel
theorem dX7_init_40 : decode cX7_init 40 = .ok (.aload_n 0, 1) := by decide +kernel
theorem dX7_init_41 : decode cX7_init 41 = .ok (.bipush 96, 2) := by decide +kernel
theorem dX7_init_43 : decode cX7_init 43 = .ok (.newarray .int, 2) := by decide +kernel
theorem dX7_init_45 : decode cX7_init 45 = .ok (.putfield 26, 3) := by decide +kernel
theorem dX7_init_48 : decode cX7_init 48 = .ok (.aload_n 0, 1) := by decide +kernel
theorem dX7_init_49 : decode cX7_init 49 = .ok (.bipush 96, 2) := by decide +kernel
theorem dX7_init_51 : decode cX7_init 51 = .ok (.newarray .int, 2) := by decide +kernel
theorem dX7_init_53 : decode cX7_init 53 = .ok (.putfield 29, 3) := by decide +kernel
theorem dX7_init_56 : decode cX7_init 56 = .ok (.aload_n 0, 1) := by decide +kernel
theorem dX7_init_57 : decode cX7_init 57 = .ok (.bipush 96, 2) := by decide +kernel
theorem dX7_init_59 : decode cX7_init 59 = .ok (.newarray .boolean, 2) := by decide +kernel
theorem dX7_init_61 : decode cX7_init 61 = .ok (.putfield 32, 3) := by decide +kernel
theorem dX7_init_64 : decode cX7_init 64 = .ok (.aload_n 0, 1) := by decide +kernel
theorem dX7_init_65 : decode cX7_init 65 = .ok (.bipush 24, 2) := by decide +kernel
theorem dX7_init_67 : decode cX7_init 67 = .ok (.newarray .int, 2) := by decide +kernel
theorem dX7_init_69 : decode cX7_init 69 = .ok (.putfield 38, 3) := by decide +kernel
theorem dX7_init_72 : decode cX7_init 72 = .ok (.aload_n 0, 1) := by decide +kernel
theorem dX7_init_73 : decode cX7_init 73 = .ok (.aload_n 1, 1) := by decide +kernel
theorem dX7_init_74 : decode cX7_init 74 = .ok (.putfield 41, 3) := by decide +kernel
theorem dX7_init_77 : decode cX7_init 77 = .ok (.return_, 1) := by decide +kernel
theorem dX7_size_0 : decode cX7_size 0 = .ok (.aload_n 0, 1) := by decide +kernel
theorem dX7_size_1 : decode cX7_size 1 = .ok (.getfield 45, 3) := by decide +kernel
theorem dX7_size_4 : decode cX7_size 4 = .ok (.ireturn, 1) := by decide +kernel
theorem dX7_isText_0 : decode cX7_isText 0 = .ok (.iload_n 1, 1) := by decide +kernel
theorem dX7_isText_1 : decode cX7_isText 1 = .ok (.ifCond .lt 15, 3) := by decide +kernel
theorem dX7_isText_4 : decode cX7_isText 4 = .ok (.iload_n 1, 1) := by decide +kernel
theorem dX7_isText_5 : decode cX7_isText 5 = .ok (.aload_n 0, 1) := by decide +kernel
theorem dX7_isText_6 : decode cX7_isText 6 = .ok (.getfield 45, 3) := by decide +kernel
theorem dX7_isText_9 : decode cX7_isText 9 = .ok (.if_icmp .ge 7, 3) := by decide +kernel
theorem dX7_isText_12 : decode cX7_isText 12 = .ok (.iconst 1, 1) := by decide +kernel
theorem dX7_isText_13 : decode cX7_isText 13 = .ok (.goto 4, 3) := by decide +kernel
theorem dX7_isText_16 : decode cX7_isText 16 = .ok (.iconst 0, 1) := by decide +kernel
theorem dX7_isText_17 : decode cX7_isText 17 = .ok (.ireturn, 1) := by decide +kernel
theorem dX7_lengthOf_0 : decode cX7_lengthOf 0 = .ok (.aload_n 0, 1) := by decide +kernel
theorem dX7_lengthOf_1 : decode cX7_lengthOf 1 = .ok (.iload_n 1, 1) := by decide +kernel
theorem dX7_lengthOf_2 : decode cX7_lengthOf 2 = .ok (.invokevirtual 49, 3) := by decide +kernel
theorem dX7_lengthOf_5 : decode cX7_lengthOf 5 = .ok (.ifCond .eq 12, 3) := by decide +kernel
theorem dX7_lengthOf_8 : decode cX7_lengthOf 8 = .ok (.aload_n 0, 1) := by decide +kernel
theorem dX7_lengthOf_9 : decode cX7_lengthOf 9 = .ok (.getfield 20, 3) := by decide +kernel
theorem dX7_lengthOf_12 : decode cX7_lengthOf 12 = .ok (.iload_n 1, 1) := by decide +kernel
theorem dX7_lengthOf_13 : decode cX7_lengthOf 13 = .ok (.iaload, 1) := by decide +kernel
theorem dX7_lengthOf_14 : decode cX7_lengthOf 14 = .ok (.goto 4, 3) := by decide +kernel
theorem dX7_lengthOf_17 : decode cX7_lengthOf 17 = .ok (.iconst 0, 1) := by decide +kernel
theorem dX7_lengthOf_18 : decode cX7_lengthOf 18 = .ok (.ireturn, 1) := by decide +kernel
theorem dX7_areTexts_0 : decode cX7_areTexts 0 = .ok (.iload_n 1, 1) := by decide +kernel
theorem dX7_areTexts_1 : decode cX7_areTexts 1 = .ok (.ifCond .lt 17, 3) := by decide +kernel
theorem dX7_areTexts_4 : decode cX7_areTexts 4 = .ok (.iload_n 1, 1) := by decide +kernel
theorem dX7_areTexts_5 : decode cX7_areTexts 5 = .ok (.iconst 1, 1) := by decide +kernel
theorem dX7_areTexts_6 : decode cX7_areTexts 6 = .ok (.aload_n 0, 1) := by decide +kernel
theorem dX7_areTexts_7 : decode cX7_areTexts 7 = .ok (.getfield 45, 3) := by decide +kernel
theorem dX7_areTexts_10 : decode cX7_areTexts 10 = .ok (.ishl, 1) := by decide +kernel
theorem dX7_areTexts_11 : decode cX7_areTexts 11 = .ok (.if_icmp .ge 7, 3) := by decide +kernel
theorem dX7_areTexts_14 : decode cX7_areTexts 14 = .ok (.iconst 1, 1) := by decide +kernel
theorem dX7_areTexts_15 : decode cX7_areTexts 15 = .ok (.goto 4, 3) := by decide +kernel
theorem dX7_areTexts_18 : decode cX7_areTexts 18 = .ok (.iconst 0, 1) := by decide +kernel
theorem dX7_areTexts_19 : decode cX7_areTexts 19 = .ok (.ireturn, 1) := by decide +kernel
theorem dX7_draftCell_0 : decode cX7_draftCell 0 = .ok (.iload_n 1, 1) := by decide +kernel
theorem dX7_draftCell_1 : decode cX7_draftCell 1 = .ok (.ifCond .lt 9, 3) := by decide +kernel
theorem dX7_draftCell_4 : decode cX7_draftCell 4 = .ok (.iload_n 1, 1) := by decide +kernel
theorem dX7_draftCell_5 : decode cX7_draftCell 5 = .ok (.bipush 24, 2) := by decide +kernel
theorem dX7_draftCell_7 : decode cX7_draftCell 7 = .ok (.if_icmp .lt 5, 3) := by decide +kernel
theorem dX7_draftCell_10 : decode cX7_draftCell 10 = .ok (.iconst 0, 1) := by decide +kernel
theorem dX7_draftCell_11 : decode cX7_draftCell 11 = .ok (.ireturn, 1) := by decide +kernel
theorem dX7_draftCell_12 : decode cX7_draftCell 12 = .ok (.aload_n 0, 1) := by decide +kernel
theorem dX7_draftCell_13 : decode cX7_draftCell 13 = .ok (.getfield 41, 3) := by decide +kernel
theorem dX7_draftCell_16 : decode cX7_draftCell 16 = .ok (.iload_n 2, 1) := by decide +kernel
theorem dX7_draftCell_17 : decode cX7_draftCell 17 = .ok (.invokevirtual 53, 3) := by decide +kernel
theorem dX7_draftCell_20 : decode cX7_draftCell 20 = .ok (.ifCond .ne 16, 3) := by decide +kernel
theorem dX7_draftCell_23 : decode cX7_draftCell 23 = .ok (.iload_n 2, 1) := by decide +kernel
theorem dX7_draftCell_24 : decode cX7_draftCell 24 = .ok (.iconst (-1), 1) := by decide +kernel
theorem dX7_draftCell_25 : decode cX7_draftCell 25 = .ok (.if_icmp .eq 11, 3) := by decide +kernel
theorem dX7_draftCell_28 : decode cX7_draftCell 28 = .ok (.iload_n 2, 1) := by decide +kernel
theorem dX7_draftCell_29 : decode cX7_draftCell 29 = .ok (.bipush (-2), 2) := by decide +kernel
theorem dX7_draftCell_31 : decode cX7_draftCell 31 = .ok (.if_icmp .eq 5, 3) := by decide +kernel
theorem dX7_draftCell_34 : decode cX7_draftCell 34 = .ok (.iconst 0, 1) := by decide +kernel
theorem dX7_draftCell_35 : decode cX7_draftCell 35 = .ok (.ireturn, 1) := by decide +kernel
theorem dX7_draftCell_36 : decode cX7_draftCell 36 = .ok (.aload_n 0, 1) := by decide +kernel
theorem dX7_draftCell_37 : decode cX7_draftCell 37 = .ok (.getfield 11, 3) := by decide +kernel
theorem dX7_draftCell_40 : decode cX7_draftCell 40 = .ok (.iload_n 1, 1) := by decide +kernel
theorem dX7_draftCell_41 : decode cX7_draftCell 41 = .ok (.iload_n 2, 1) := by decide +kernel
theorem dX7_draftCell_42 : decode cX7_draftCell 42 = .ok (.iastore, 1) := by decide +kernel
theorem dX7_draftCell_43 : decode cX7_draftCell 43 = .ok (.iconst 1, 1) := by decide +kernel
theorem dX7_draftCell_44 : decode cX7_draftCell 44 = .ok (.ireturn, 1) := by decide +kernel
theorem dX7_addDraft_0 : decode cX7_addDraft 0 = .ok (.iload_n 1, 1) := by decide +kernel
theorem dX7_addDraft_1 : decode cX7_addDraft 1 = .ok (.iconst 1, 1) := by decide +kernel
theorem dX7_addDraft_2 : decode cX7_addDraft 2 = .ok (.if_icmp .lt 9, 3) := by decide +kernel
theorem dX7_addDraft_5 : decode cX7_addDraft 5 = .ok (.iload_n 1, 1) := by decide +kernel
theorem dX7_addDraft_6 : decode cX7_addDraft 6 = .ok (.bipush 24, 2) := by decide +kernel
theorem dX7_addDraft_8 : decode cX7_addDraft 8 = .ok (.if_icmp .le 5, 3) := by decide +kernel
theorem dX7_addDraft_11 : decode cX7_addDraft 11 = .ok (.iconst (-1), 1) := by decide +kernel
theorem dX7_addDraft_12 : decode cX7_addDraft 12 = .ok (.ireturn, 1) := by decide +kernel
theorem dX7_addDraft_13 : decode cX7_addDraft 13 = .ok (.aload_n 0, 1) := by decide +kernel
theorem dX7_addDraft_14 : decode cX7_addDraft 14 = .ok (.getfield 45, 3) := by decide +kernel
theorem dX7_addDraft_17 : decode cX7_addDraft 17 = .ok (.bipush 8, 2) := by decide +kernel
theorem dX7_addDraft_19 : decode cX7_addDraft 19 = .ok (.if_icmp .lt 6, 3) := by decide +kernel
theorem dX7_addDraft_22 : decode cX7_addDraft 22 = .ok (.bipush (-3), 2) := by decide +kernel
theorem dX7_addDraft_24 : decode cX7_addDraft 24 = .ok (.ireturn, 1) := by decide +kernel
theorem dX7_addDraft_25 : decode cX7_addDraft 25 = .ok (.iconst 0, 1) := by decide +kernel
theorem dX7_addDraft_26 : decode cX7_addDraft 26 = .ok (.istore_n 2, 1) := by decide +kernel
theorem dX7_addDraft_27 : decode cX7_addDraft 27 = .ok (.iload_n 2, 1) := by decide +kernel
theorem dX7_addDraft_28 : decode cX7_addDraft 28 = .ok (.iload_n 1, 1) := by decide +kernel
theorem dX7_addDraft_29 : decode cX7_addDraft 29 = .ok (.if_icmp .ge 26, 3) := by decide +kernel
theorem dX7_addDraft_32 : decode cX7_addDraft 32 = .ok (.aload_n 0, 1) := by decide +kernel
theorem dX7_addDraft_33 : decode cX7_addDraft 33 = .ok (.getfield 17, 3) := by decide +kernel
theorem dX7_addDraft_36 : decode cX7_addDraft 36 = .ok (.aload_n 0, 1) := by decide +kernel
theorem dX7_addDraft_37 : decode cX7_addDraft 37 = .ok (.getfield 45, 3) := by decide +kernel
theorem dX7_addDraft_40 : decode cX7_addDraft 40 = .ok (.aaload, 1) := by decide +kernel
theorem dX7_addDraft_41 : decode cX7_addDraft 41 = .ok (.iload_n 2, 1) := by decide +kernel
theorem dX7_addDraft_42 : decode cX7_addDraft 42 = .ok (.aload_n 0, 1) := by decide +kernel
theorem dX7_addDraft_43 : decode cX7_addDraft 43 = .ok (.getfield 11, 3) := by decide +kernel
theorem dX7_addDraft_46 : decode cX7_addDraft 46 = .ok (.iload_n 2, 1) := by decide +kernel
theorem dX7_addDraft_47 : decode cX7_addDraft 47 = .ok (.iaload, 1) := by decide +kernel
theorem dX7_addDraft_48 : decode cX7_addDraft 48 = .ok (.iastore, 1) := by decide +kernel
theorem dX7_addDraft_49 : decode cX7_addDraft 49 = .ok (.iinc 2 1, 3) := by decide +kernel
theorem dX7_addDraft_52 : decode cX7_addDraft 52 = .ok (.goto (-25), 3) := by decide +kernel
theorem dX7_addDraft_55 : decode cX7_addDraft 55 = .ok (.aload_n 0, 1) := by decide +kernel
theorem dX7_addDraft_56 : decode cX7_addDraft 56 = .ok (.getfield 20, 3) := by decide +kernel
theorem dX7_addDraft_59 : decode cX7_addDraft 59 = .ok (.aload_n 0, 1) := by decide +kernel
theorem dX7_addDraft_60 : decode cX7_addDraft 60 = .ok (.getfield 45, 3) := by decide +kernel
theorem dX7_addDraft_63 : decode cX7_addDraft 63 = .ok (.iload_n 1, 1) := by decide +kernel
theorem dX7_addDraft_64 : decode cX7_addDraft 64 = .ok (.iastore, 1) := by decide +kernel
theorem dX7_addDraft_65 : decode cX7_addDraft 65 = .ok (.aload_n 0, 1) := by decide +kernel
theorem dX7_addDraft_66 : decode cX7_addDraft 66 = .ok (.dup, 1) := by decide +kernel
theorem dX7_addDraft_67 : decode cX7_addDraft 67 = .ok (.getfield 45, 3) := by decide +kernel
theorem dX7_addDraft_70 : decode cX7_addDraft 70 = .ok (.iconst 1, 1) := by decide +kernel
theorem dX7_addDraft_71 : decode cX7_addDraft 71 = .ok (.iadd, 1) := by decide +kernel
theorem dX7_addDraft_72 : decode cX7_addDraft 72 = .ok (.putfield 45, 3) := by decide +kernel
theorem dX7_addDraft_75 : decode cX7_addDraft 75 = .ok (.aload_n 0, 1) := by decide +kernel
theorem dX7_addDraft_76 : decode cX7_addDraft 76 = .ok (.aload_n 0, 1) := by decide +kernel
theorem dX7_addDraft_77 : decode cX7_addDraft 77 = .ok (.getfield 45, 3) := by decide +kernel
theorem dX7_addDraft_80 : decode cX7_addDraft 80 = .ok (.iconst 1, 1) := by decide +kernel
theorem dX7_addDraft_81 : decode cX7_addDraft 81 = .ok (.isub, 1) := by decide +kernel
theorem dX7_addDraft_82 : decode cX7_addDraft 82 = .ok (.invokevirtual 56, 3) := by decide +kernel
theorem dX7_addDraft_85 : decode cX7_addDraft 85 = .ok (.aload_n 0, 1) := by decide +kernel
theorem dX7_addDraft_86 : decode cX7_addDraft 86 = .ok (.getfield 45, 3) := by decide +kernel
theorem dX7_addDraft_89 : decode cX7_addDraft 89 = .ok (.iconst 1, 1) := by decide +kernel
theorem dX7_addDraft_90 : decode cX7_addDraft 90 = .ok (.isub, 1) := by decide +kernel
theorem dX7_addDraft_91 : decode cX7_addDraft 91 = .ok (.ireturn, 1) := by decide +kernel
theorem dX7_dropLatest_0 : decode cX7_dropLatest 0 = .ok (.aload_n 0, 1) := by decide +kernel
theorem dX7_dropLatest_1 : decode cX7_dropLatest 1 = .ok (.getfield 45, 3) := by decide +kernel
theorem dX7_dropLatest_4 : decode cX7_dropLatest 4 = .ok (.iconst 1, 1) := by decide +kernel
theorem dX7_dropLatest_5 : decode cX7_dropLatest 5 = .ok (.if_icmp .ge 6, 3) := by decide +kernel
theorem dX7_dropLatest_8 : decode cX7_dropLatest 8 = .ok (.bipush (-4), 2) := by decide +kernel
theorem dX7_dropLatest_10 : decode cX7_dropLatest 10 = .ok (.ireturn, 1) := by decide +kernel
theorem dX7_dropLatest_11 : decode cX7_dropLatest 11 = .ok (.aload_n 0, 1) := by decide +kernel
theorem dX7_dropLatest_12 : decode cX7_dropLatest 12 = .ok (.dup, 1) := by decide +kernel
theorem dX7_dropLatest_13 : decode cX7_dropLatest 13 = .ok (.getfield 45, 3) := by decide +kernel
theorem dX7_dropLatest_16 : decode cX7_dropLatest 16 = .ok (.iconst 1, 1) := by decide +kernel
theorem dX7_dropLatest_17 : decode cX7_dropLatest 17 = .ok (.isub, 1) := by decide +kernel
theorem dX7_dropLatest_18 : decode cX7_dropLatest 18 = .ok (.putfield 45, 3) := by decide +kernel
theorem dX7_dropLatest_21 : decode cX7_dropLatest 21 = .ok (.iconst 0, 1) := by decide +kernel
theorem dX7_dropLatest_22 : decode cX7_dropLatest 22 = .ok (.istore_n 1, 1) := by decide +kernel
theorem dX7_dropLatest_23 : decode cX7_dropLatest 23 = .ok (.iconst 0, 1) := by decide +kernel
theorem dX7_dropLatest_24 : decode cX7_dropLatest 24 = .ok (.istore_n 2, 1) := by decide +kernel
theorem dX7_dropLatest_25 : decode cX7_dropLatest 25 = .ok (.iload_n 2, 1) := by decide +kernel
theorem dX7_dropLatest_26 : decode cX7_dropLatest 26 = .ok (.aload_n 0, 1) := by decide +kernel
theorem dX7_dropLatest_27 : decode cX7_dropLatest 27 = .ok (.getfield 60, 3) := by decide +kernel
theorem dX7_dropLatest_30 : decode cX7_dropLatest 30 = .ok (.if_icmp .ge 25, 3) := by decide +kernel
theorem dX7_dropLatest_33 : decode cX7_dropLatest 33 = .ok (.aload_n 0, 1) := by decide +kernel
theorem dX7_dropLatest_34 : decode cX7_dropLatest 34 = .ok (.getfield 23, 3) := by decide +kernel
theorem dX7_dropLatest_37 : decode cX7_dropLatest 37 = .ok (.iload_n 2, 1) := by decide +kernel
theorem dX7_dropLatest_38 : decode cX7_dropLatest 38 = .ok (.iaload, 1) := by decide +kernel
theorem dX7_dropLatest_39 : decode cX7_dropLatest 39 = .ok (.aload_n 0, 1) := by decide +kernel
theorem dX7_dropLatest_40 : decode cX7_dropLatest 40 = .ok (.getfield 45, 3) := by decide +kernel
theorem dX7_dropLatest_43 : decode cX7_dropLatest 43 = .ok (.if_icmp .ge 6, 3) := by decide +kernel
theorem dX7_dropLatest_46 : decode cX7_dropLatest 46 = .ok (.iinc 1 1, 3) := by decide +kernel
theorem dX7_dropLatest_49 : decode cX7_dropLatest 49 = .ok (.iinc 2 1, 3) := by decide +kernel
theorem dX7_dropLatest_52 : decode cX7_dropLatest 52 = .ok (.goto (-27), 3) := by decide +kernel
theorem dX7_dropLatest_55 : decode cX7_dropLatest 55 = .ok (.aload_n 0, 1) := by decide +kernel
theorem dX7_dropLatest_56 : decode cX7_dropLatest 56 = .ok (.iload_n 1, 1) := by decide +kernel
theorem dX7_dropLatest_57 : decode cX7_dropLatest 57 = .ok (.putfield 60, 3) := by decide +kernel
theorem dX7_dropLatest_60 : decode cX7_dropLatest 60 = .ok (.aload_n 0, 1) := by decide +kernel
theorem dX7_dropLatest_61 : decode cX7_dropLatest 61 = .ok (.getfield 45, 3) := by decide +kernel
theorem dX7_dropLatest_64 : decode cX7_dropLatest 64 = .ok (.ireturn, 1) := by decide +kernel
theorem dX7_signAt_0 : decode cX7_signAt 0 = .ok (.iload_n 1, 1) := by decide +kernel
theorem dX7_signAt_1 : decode cX7_signAt 1 = .ok (.ifCond .lt 25, 3) := by decide +kernel
theorem dX7_signAt_4 : decode cX7_signAt 4 = .ok (.iload_n 1, 1) := by decide +kernel
theorem dX7_signAt_5 : decode cX7_signAt 5 = .ok (.aload_n 0, 1) := by decide +kernel
theorem dX7_signAt_6 : decode cX7_signAt 6 = .ok (.getfield 45, 3) := by decide +kernel
theorem dX7_signAt_9 : decode cX7_signAt 9 = .ok (.if_icmp .ge 17, 3) := by decide +kernel
theorem dX7_signAt_12 : decode cX7_signAt 12 = .ok (.iload_n 2, 1) := by decide +kernel
theorem dX7_signAt_13 : decode cX7_signAt 13 = .ok (.ifCond .lt 13, 3) := by decide +kernel
theorem dX7_signAt_16 : decode cX7_signAt 16 = .ok (.iload_n 2, 1) := by decide +kernel
theorem dX7_signAt_17 : decode cX7_signAt 17 = .ok (.aload_n 0, 1) := by decide +kernel
theorem dX7_signAt_18 : decode cX7_signAt 18 = .ok (.getfield 20, 3) := by decide +kernel
theorem dX7_signAt_21 : decode cX7_signAt 21 = .ok (.iload_n 1, 1) := by decide +kernel
theorem dX7_signAt_22 : decode cX7_signAt 22 = .ok (.iaload, 1) := by decide +kernel
theorem dX7_signAt_23 : decode cX7_signAt 23 = .ok (.if_icmp .lt 6, 3) := by decide +kernel
theorem dX7_signAt_26 : decode cX7_signAt 26 = .ok (.bipush (-2), 2) := by decide +kernel
theorem dX7_signAt_28 : decode cX7_signAt 28 = .ok (.ireturn, 1) := by decide +kernel
theorem dX7_signAt_29 : decode cX7_signAt 29 = .ok (.aload_n 0, 1) := by decide +kernel
theorem dX7_signAt_30 : decode cX7_signAt 30 = .ok (.getfield 17, 3) := by decide +kernel
theorem dX7_signAt_33 : decode cX7_signAt 33 = .ok (.iload_n 1, 1) := by decide +kernel
theorem dX7_signAt_34 : decode cX7_signAt 34 = .ok (.aaload, 1) := by decide +kernel
theorem dX7_signAt_35 : decode cX7_signAt 35 = .ok (.iload_n 2, 1) := by decide +kernel
theorem dX7_signAt_36 : decode cX7_signAt 36 = .ok (.iaload, 1) := by decide +kernel
theorem dX7_signAt_37 : decode cX7_signAt 37 = .ok (.istore_n 3, 1) := by decide +kernel
theorem dX7_signAt_38 : decode cX7_signAt 38 = .ok (.iload_n 3, 1) := by decide +kernel
theorem dX7_signAt_39 : decode cX7_signAt 39 = .ok (.ifCond .ge 7, 3) := by decide +kernel
theorem dX7_signAt_42 : decode cX7_signAt 42 = .ok (.iload_n 3, 1) := by decide +kernel
theorem dX7_signAt_43 : decode cX7_signAt 43 = .ok (.goto 11, 3) := by decide +kernel
theorem dX7_signAt_46 : decode cX7_signAt 46 = .ok (.aload_n 0, 1) := by decide +kernel
theorem dX7_signAt_47 : decode cX7_signAt 47 = .ok (.getfield 41, 3) := by decide +kernel
theorem dX7_signAt_50 : decode cX7_signAt 50 = .ok (.iload_n 3, 1) := by decide +kernel
theorem dX7_signAt_51 : decode cX7_signAt 51 = .ok (.invokevirtual 63, 3) := by decide +kernel
theorem dX7_signAt_54 : decode cX7_signAt 54 = .ok (.ireturn, 1) := by decide +kernel
theorem dX7_findWords_0 : decode cX7_findWords 0 = .ok (.iconst 0, 1) := by decide +kernel
theorem dX7_findWords_1 : decode cX7_findWords 1 = .ok (.istore_n 2, 1) := by decide +kernel
theorem dX7_findWords_2 : decode cX7_findWords 2 = .ok (.iconst 0, 1) := by decide +kernel
theorem dX7_findWords_3 : decode cX7_findWords 3 = .ok (.istore_n 3, 1) := by decide +kernel
theorem dX7_findWords_4 : decode cX7_findWords 4 = .ok (.iload_n 3, 1) := by decide +kernel
theorem dX7_findWords_5 : decode cX7_findWords 5 = .ok (.aload_n 0, 1) := by decide +kernel
theorem dX7_findWords_6 : decode cX7_findWords 6 = .ok (.getfield 20, 3) := by decide +kernel
theorem dX7_findWords_9 : decode cX7_findWords 9 = .ok (.iload_n 1, 1) := by decide +kernel
theorem dX7_findWords_10 : decode cX7_findWords 10 = .ok (.iaload, 1) := by decide +kernel
theorem dX7_findWords_11 : decode cX7_findWords 11 = .ok (.if_icmp .gt 41, 3) := by decide +kernel
theorem dX7_findWords_14 : decode cX7_findWords 14 = .ok (.aload_n 0, 1) := by decide +kernel
theorem dX7_findWords_15 : decode cX7_findWords 15 = .ok (.iload_n 1, 1) := by decide +kernel
theorem dX7_findWords_16 : decode cX7_findWords 16 = .ok (.iload_n 3, 1) := by decide +kernel
theorem dX7_findWords_17 : decode cX7_findWords 17 = .ok (.invokevirtual 67, 3) := by decide +kernel
theorem dX7_findWords_20 : decode cX7_findWords 20 = .ok (.bipush (-2), 2) := by decide +kernel
theorem dX7_findWords_22 : decode cX7_findWords 22 = .ok (.if_icmp .eq 6, 3) := by decide +kernel
theorem dX7_findWords_25 : decode cX7_findWords 25 = .ok (.goto 21, 3) := by decide +kernel
theorem dX7_findWords_28 : decode cX7_findWords 28 = .ok (.iload_n 3, 1) := by decide +kernel
theorem dX7_findWords_29 : decode cX7_findWords 29 = .ok (.iload_n 2, 1) := by decide +kernel
theorem dX7_findWords_30 : decode cX7_findWords 30 = .ok (.if_icmp .le 12, 3) := by decide +kernel
theorem dX7_findWords_33 : decode cX7_findWords 33 = .ok (.aload_n 0, 1) := by decide +kernel
theorem dX7_findWords_34 : decode cX7_findWords 34 = .ok (.iload_n 1, 1) := by decide +kernel
theorem dX7_findWords_35 : decode cX7_findWords 35 = .ok (.iload_n 2, 1) := by decide +kernel
theorem dX7_findWords_36 : decode cX7_findWords 36 = .ok (.iload_n 3, 1) := by decide +kernel
theorem dX7_findWords_37 : decode cX7_findWords 37 = .ok (.iload_n 2, 1) := by decide +kernel
theorem dX7_findWords_38 : decode cX7_findWords 38 = .ok (.isub, 1) := by decide +kernel
theorem dX7_findWords_39 : decode cX7_findWords 39 = .ok (.invokevirtual 71, 3) := by decide +kernel
theorem dX7_findWords_42 : decode cX7_findWords 42 = .ok (.iload_n 3, 1) := by decide +kernel
theorem dX7_findWords_43 : decode cX7_findWords 43 = .ok (.iconst 1, 1) := by decide +kernel
theorem dX7_findWords_44 : decode cX7_findWords 44 = .ok (.iadd, 1) := by decide +kernel
theorem dX7_findWords_45 : decode cX7_findWords 45 = .ok (.istore_n 2, 1) := by decide +kernel
theorem dX7_findWords_46 : decode cX7_findWords 46 = .ok (.iinc 3 1, 3) := by decide +kernel
theorem dX7_findWords_49 : decode cX7_findWords 49 = .ok (.goto (-45), 3) := by decide +kernel
theorem dX7_findWords_52 : decode cX7_findWords 52 = .ok (.return_, 1) := by decide +kernel
theorem dX7_addWord_0 : decode cX7_addWord 0 = .ok (.aload_n 0, 1) := by decide +kernel
theorem dX7_addWord_1 : decode cX7_addWord 1 = .ok (.getfield 60, 3) := by decide +kernel
theorem dX7_addWord_4 : decode cX7_addWord 4 = .ok (.bipush 96, 2) := by decide +kernel
theorem dX7_addWord_6 : decode cX7_addWord 6 = .ok (.if_icmp .lt 4, 3) := by decide +kernel
theorem dX7_addWord_9 : decode cX7_addWord 9 = .ok (.return_, 1) := by decide +kernel
theorem dX7_addWord_10 : decode cX7_addWord 10 = .ok (.aload_n 0, 1) := by decide +kernel
theorem dX7_addWord_11 : decode cX7_addWord 11 = .ok (.getfield 23, 3) := by decide +kernel
theorem dX7_addWord_14 : decode cX7_addWord 14 = .ok (.aload_n 0, 1) := by decide +kernel
theorem dX7_addWord_15 : decode cX7_addWord 15 = .ok (.getfield 60, 3) := by decide +kernel
theorem dX7_addWord_18 : decode cX7_addWord 18 = .ok (.iload_n 1, 1) := by decide +kernel
theorem dX7_addWord_19 : decode cX7_addWord 19 = .ok (.iastore, 1) := by decide +kernel
theorem dX7_addWord_20 : decode cX7_addWord 20 = .ok (.aload_n 0, 1) := by decide +kernel
theorem dX7_addWord_21 : decode cX7_addWord 21 = .ok (.getfield 26, 3) := by decide +kernel
theorem dX7_addWord_24 : decode cX7_addWord 24 = .ok (.aload_n 0, 1) := by decide +kernel
theorem dX7_addWord_25 : decode cX7_addWord 25 = .ok (.getfield 60, 3) := by decide +kernel
theorem dX7_addWord_28 : decode cX7_addWord 28 = .ok (.iload_n 2, 1) := by decide +kernel
theorem dX7_addWord_29 : decode cX7_addWord 29 = .ok (.iastore, 1) := by decide +kernel
theorem dX7_addWord_30 : decode cX7_addWord 30 = .ok (.aload_n 0, 1) := by decide +kernel
theorem dX7_addWord_31 : decode cX7_addWord 31 = .ok (.getfield 29, 3) := by decide +kernel
theorem dX7_addWord_34 : decode cX7_addWord 34 = .ok (.aload_n 0, 1) := by decide +kernel
theorem dX7_addWord_35 : decode cX7_addWord 35 = .ok (.getfield 60, 3) := by decide +kernel
theorem dX7_addWord_38 : decode cX7_addWord 38 = .ok (.iload_n 3, 1) := by decide +kernel
theorem dX7_addWord_39 : decode cX7_addWord 39 = .ok (.iastore, 1) := by decide +kernel
theorem dX7_addWord_40 : decode cX7_addWord 40 = .ok (.aload_n 0, 1) := by decide +kernel
theorem dX7_addWord_41 : decode cX7_addWord 41 = .ok (.getfield 32, 3) := by decide +kernel
theorem dX7_addWord_44 : decode cX7_addWord 44 = .ok (.aload_n 0, 1) := by decide +kernel
theorem dX7_addWord_45 : decode cX7_addWord 45 = .ok (.getfield 60, 3) := by decide +kernel
theorem dX7_addWord_48 : decode cX7_addWord 48 = .ok (.iconst 1, 1) := by decide +kernel
theorem dX7_addWord_49 : decode cX7_addWord 49 = .ok (.bastore, 1) := by decide +kernel
theorem dX7_addWord_50 : decode cX7_addWord 50 = .ok (.iconst 0, 1) := by decide +kernel
theorem dX7_addWord_51 : decode cX7_addWord 51 = .ok (.istore 4, 2) := by decide +kernel
theorem dX7_addWord_53 : decode cX7_addWord 53 = .ok (.iload 4, 2) := by decide +kernel
theorem dX7_addWord_55 : decode cX7_addWord 55 = .ok (.iload_n 3, 1) := by decide +kernel
theorem dX7_addWord_56 : decode cX7_addWord 56 = .ok (.if_icmp .ge 32, 3) := by decide +kernel
theorem dX7_addWord_59 : decode cX7_addWord 59 = .ok (.aload_n 0, 1) := by decide +kernel
theorem dX7_addWord_60 : decode cX7_addWord 60 = .ok (.iload_n 1, 1) := by decide +kernel
theorem dX7_addWord_61 : decode cX7_addWord 61 = .ok (.iload_n 2, 1) := by decide +kernel
theorem dX7_addWord_62 : decode cX7_addWord 62 = .ok (.iload 4, 2) := by decide +kernel
theorem dX7_addWord_64 : decode cX7_addWord 64 = .ok (.iadd, 1) := by decide +kernel
theorem dX7_addWord_65 : decode cX7_addWord 65 = .ok (.invokevirtual 67, 3) := by decide +kernel
theorem dX7_addWord_68 : decode cX7_addWord 68 = .ok (.iconst (-1), 1) := by decide +kernel
theorem dX7_addWord_69 : decode cX7_addWord 69 = .ok (.if_icmp .ne 13, 3) := by decide +kernel
theorem dX7_addWord_72 : decode cX7_addWord 72 = .ok (.aload_n 0, 1) := by decide +kernel
theorem dX7_addWord_73 : decode cX7_addWord 73 = .ok (.getfield 32, 3) := by decide +kernel
theorem dX7_addWord_76 : decode cX7_addWord 76 = .ok (.aload_n 0, 1) := by decide +kernel
theorem dX7_addWord_77 : decode cX7_addWord 77 = .ok (.getfield 60, 3) := by decide +kernel
theorem dX7_addWord_80 : decode cX7_addWord 80 = .ok (.iconst 0, 1) := by decide +kernel
theorem dX7_addWord_81 : decode cX7_addWord 81 = .ok (.bastore, 1) := by decide +kernel
theorem dX7_addWord_82 : decode cX7_addWord 82 = .ok (.iinc 4 1, 3) := by decide +kernel
theorem dX7_addWord_85 : decode cX7_addWord 85 = .ok (.goto (-32), 3) := by decide +kernel
theorem dX7_addWord_88 : decode cX7_addWord 88 = .ok (.aload_n 0, 1) := by decide +kernel
theorem dX7_addWord_89 : decode cX7_addWord 89 = .ok (.dup, 1) := by decide +kernel
theorem dX7_addWord_90 : decode cX7_addWord 90 = .ok (.getfield 60, 3) := by decide +kernel
theorem dX7_addWord_93 : decode cX7_addWord 93 = .ok (.iconst 1, 1) := by decide +kernel
theorem dX7_addWord_94 : decode cX7_addWord 94 = .ok (.iadd, 1) := by decide +kernel
theorem dX7_addWord_95 : decode cX7_addWord 95 = .ok (.putfield 60, 3) := by decide +kernel
theorem dX7_addWord_98 : decode cX7_addWord 98 = .ok (.return_, 1) := by decide +kernel
theorem dX7_words_0 : decode cX7_words 0 = .ok (.aload_n 0, 1) := by decide +kernel
theorem dX7_words_1 : decode cX7_words 1 = .ok (.getfield 60, 3) := by decide +kernel
theorem dX7_words_4 : decode cX7_words 4 = .ok (.ireturn, 1) := by decide +kernel
theorem dX7_isWord_0 : decode cX7_isWord 0 = .ok (.iload_n 1, 1) := by decide +kernel
theorem dX7_isWord_1 : decode cX7_isWord 1 = .ok (.ifCond .lt 15, 3) := by decide +kernel
theorem dX7_isWord_4 : decode cX7_isWord 4 = .ok (.iload_n 1, 1) := by decide +kernel
theorem dX7_isWord_5 : decode cX7_isWord 5 = .ok (.aload_n 0, 1) := by decide +kernel
theorem dX7_isWord_6 : decode cX7_isWord 6 = .ok (.getfield 60, 3) := by decide +kernel
theorem dX7_isWord_9 : decode cX7_isWord 9 = .ok (.if_icmp .ge 7, 3) := by decide +kernel
theorem dX7_isWord_12 : decode cX7_isWord 12 = .ok (.iconst 1, 1) := by decide +kernel
theorem dX7_isWord_13 : decode cX7_isWord 13 = .ok (.goto 4, 3) := by decide +kernel
theorem dX7_isWord_16 : decode cX7_isWord 16 = .ok (.iconst 0, 1) := by decide +kernel
theorem dX7_isWord_17 : decode cX7_isWord 17 = .ok (.ireturn, 1) := by decide +kernel
theorem dX7_isWhole_0 : decode cX7_isWhole 0 = .ok (.aload_n 0, 1) := by decide +kernel
theorem dX7_isWhole_1 : decode cX7_isWhole 1 = .ok (.iload_n 1, 1) := by decide +kernel
theorem dX7_isWhole_2 : decode cX7_isWhole 2 = .ok (.invokevirtual 75, 3) := by decide +kernel
theorem dX7_isWhole_5 : decode cX7_isWhole 5 = .ok (.ifCond .eq 16, 3) := by decide +kernel
theorem dX7_isWhole_8 : decode cX7_isWhole 8 = .ok (.aload_n 0, 1) := by decide +kernel
theorem dX7_isWhole_9 : decode cX7_isWhole 9 = .ok (.getfield 32, 3) := by decide +kernel
theorem dX7_isWhole_12 : decode cX7_isWhole 12 = .ok (.iload_n 1, 1) := by decide +kernel
theorem dX7_isWhole_13 : decode cX7_isWhole 13 = .ok (.baload, 1) := by decide +kernel
theorem dX7_isWhole_14 : decode cX7_isWhole 14 = .ok (.ifCond .eq 7, 3) := by decide +kernel
theorem dX7_isWhole_17 : decode cX7_isWhole 17 = .ok (.iconst 1, 1) := by decide +kernel
theorem dX7_isWhole_18 : decode cX7_isWhole 18 = .ok (.goto 4, 3) := by decide +kernel
theorem dX7_isWhole_21 : decode cX7_isWhole 21 = .ok (.iconst 0, 1) := by decide +kernel
theorem dX7_isWhole_22 : decode cX7_isWhole 22 = .ok (.ireturn, 1) := by decide +kernel
theorem dX7_textOfWord_0 : decode cX7_textOfWord 0 = .ok (.aload_n 0, 1) := by decide +kernel
theorem dX7_textOfWord_1 : decode cX7_textOfWord 1 = .ok (.iload_n 1, 1) := by decide +kernel
theorem dX7_textOfWord_2 : decode cX7_textOfWord 2 = .ok (.invokevirtual 75, 3) := by decide +kernel
theorem dX7_textOfWord_5 : decode cX7_textOfWord 5 = .ok (.ifCond .eq 12, 3) := by decide +kernel
theorem dX7_textOfWord_8 : decode cX7_textOfWord 8 = .ok (.aload_n 0, 1) := by decide +kernel
theorem dX7_textOfWord_9 : decode cX7_textOfWord 9 = .ok (.getfield 23, 3) := by decide +kernel
theorem dX7_textOfWord_12 : decode cX7_textOfWord 12 = .ok (.iload_n 1, 1) := by decide +kernel
theorem dX7_textOfWord_13 : decode cX7_textOfWord 13 = .ok (.iaload, 1) := by decide +kernel
theorem dX7_textOfWord_14 : decode cX7_textOfWord 14 = .ok (.goto 5, 3) := by decide +kernel
theorem dX7_textOfWord_17 : decode cX7_textOfWord 17 = .ok (.bipush (-4), 2) := by decide +kernel
theorem dX7_textOfWord_19 : decode cX7_textOfWord 19 = .ok (.ireturn, 1) := by decide +kernel
theorem dX7_lengthOfWord_0 : decode cX7_lengthOfWord 0 = .ok (.aload_n 0, 1) := by decide +kernel
theorem dX7_lengthOfWord_1 : decode cX7_lengthOfWord 1 = .ok (.iload_n 1, 1) := by decide +kernel
theorem dX7_lengthOfWord_2 : decode cX7_lengthOfWord 2 = .ok (.invokevirtual 75, 3) := by decide +kernel
theorem dX7_lengthOfWord_5 : decode cX7_lengthOfWord 5 = .ok (.ifCond .eq 12, 3) := by decide +kernel
theorem dX7_lengthOfWord_8 : decode cX7_lengthOfWord 8 = .ok (.aload_n 0, 1) := by decide +kernel
theorem dX7_lengthOfWord_9 : decode cX7_lengthOfWord 9 = .ok (.getfield 29, 3) := by decide +kernel
theorem dX7_lengthOfWord_12 : decode cX7_lengthOfWord 12 = .ok (.iload_n 1, 1) := by decide +kernel
theorem dX7_lengthOfWord_13 : decode cX7_lengthOfWord 13 = .ok (.iaload, 1) := by decide +kernel
theorem dX7_lengthOfWord_14 : decode cX7_lengthOfWord 14 = .ok (.goto 4, 3) := by decide +kernel
theorem dX7_lengthOfWord_17 : decode cX7_lengthOfWord 17 = .ok (.iconst 0, 1) := by decide +kernel
theorem dX7_lengthOfWord_18 : decode cX7_lengthOfWord 18 = .ok (.ireturn, 1) := by decide +kernel
theorem dX7_signOfWord_0 : decode cX7_signOfWord 0 = .ok (.aload_n 0, 1) := by decide +kernel
theorem dX7_signOfWord_1 : decode cX7_signOfWord 1 = .ok (.iload_n 1, 1) := by decide +kernel
theorem dX7_signOfWord_2 : decode cX7_signOfWord 2 = .ok (.invokevirtual 75, 3) := by decide +kernel
theorem dX7_signOfWord_5 : decode cX7_signOfWord 5 = .ok (.ifCond .eq 24, 3) := by decide +kernel
theorem dX7_signOfWord_8 : decode cX7_signOfWord 8 = .ok (.aload_n 0, 1) := by decide +kernel
theorem dX7_signOfWord_9 : decode cX7_signOfWord 9 = .ok (.aload_n 0, 1) := by decide +kernel
theorem dX7_signOfWord_10 : decode cX7_signOfWord 10 = .ok (.getfield 23, 3) := by decide +kernel
theorem dX7_signOfWord_13 : decode cX7_signOfWord 13 = .ok (.iload_n 1, 1) := by decide +kernel
theorem dX7_signOfWord_14 : decode cX7_signOfWord 14 = .ok (.iaload, 1) := by decide +kernel
theorem dX7_signOfWord_15 : decode cX7_signOfWord 15 = .ok (.aload_n 0, 1) := by decide +kernel
theorem dX7_signOfWord_16 : decode cX7_signOfWord 16 = .ok (.getfield 26, 3) := by decide +kernel
theorem dX7_signOfWord_19 : decode cX7_signOfWord 19 = .ok (.iload_n 1, 1) := by decide +kernel
theorem dX7_signOfWord_20 : decode cX7_signOfWord 20 = .ok (.iaload, 1) := by decide +kernel
theorem dX7_signOfWord_21 : decode cX7_signOfWord 21 = .ok (.iload_n 2, 1) := by decide +kernel
theorem dX7_signOfWord_22 : decode cX7_signOfWord 22 = .ok (.iadd, 1) := by decide +kernel
theorem dX7_signOfWord_23 : decode cX7_signOfWord 23 = .ok (.invokevirtual 67, 3) := by decide +kernel
theorem dX7_signOfWord_26 : decode cX7_signOfWord 26 = .ok (.goto 5, 3) := by decide +kernel
theorem dX7_signOfWord_29 : decode cX7_signOfWord 29 = .ok (.bipush (-2), 2) := by decide +kernel
theorem dX7_signOfWord_31 : decode cX7_signOfWord 31 = .ok (.ireturn, 1) := by decide +kernel
theorem dX7_lastSignOfWord_0 : decode cX7_lastSignOfWord 0 = .ok (.aload_n 0, 1) := by decide +kernel
theorem dX7_lastSignOfWord_1 : decode cX7_lastSignOfWord 1 = .ok (.iload_n 1, 1) := by decide +kernel
theorem dX7_lastSignOfWord_2 : decode cX7_lastSignOfWord 2 = .ok (.aload_n 0, 1) := by decide +kernel
theorem dX7_lastSignOfWord_3 : decode cX7_lastSignOfWord 3 = .ok (.iload_n 1, 1) := by decide +kernel
theorem dX7_lastSignOfWord_4 : decode cX7_lastSignOfWord 4 = .ok (.invokevirtual 78, 3) := by decide +kernel
theorem dX7_lastSignOfWord_7 : decode cX7_lastSignOfWord 7 = .ok (.iconst 1, 1) := by decide +kernel
theorem dX7_lastSignOfWord_8 : decode cX7_lastSignOfWord 8 = .ok (.isub, 1) := by decide +kernel
theorem dX7_lastSignOfWord_9 : decode cX7_lastSignOfWord 9 = .ok (.invokevirtual 81, 3) := by decide +kernel
theorem dX7_lastSignOfWord_12 : decode cX7_lastSignOfWord 12 = .ok (.ireturn, 1) := by decide +kernel
theorem dX7_haveOneStem_0 : decode cX7_haveOneStem 0 = .ok (.aload_n 0, 1) := by decide +kernel
theorem dX7_haveOneStem_1 : decode cX7_haveOneStem 1 = .ok (.iload_n 1, 1) := by decide +kernel
theorem dX7_haveOneStem_2 : decode cX7_haveOneStem 2 = .ok (.invokevirtual 75, 3) := by decide +kernel
theorem dX7_haveOneStem_5 : decode cX7_haveOneStem 5 = .ok (.ifCond .eq 26, 3) := by decide +kernel
theorem dX7_haveOneStem_8 : decode cX7_haveOneStem 8 = .ok (.aload_n 0, 1) := by decide +kernel
theorem dX7_haveOneStem_9 : decode cX7_haveOneStem 9 = .ok (.iload_n 2, 1) := by decide +kernel
theorem dX7_haveOneStem_10 : decode cX7_haveOneStem 10 = .ok (.invokevirtual 75, 3) := by decide +kernel
theorem dX7_haveOneStem_13 : decode cX7_haveOneStem 13 = .ok (.ifCond .eq 18, 3) := by decide +kernel
theorem dX7_haveOneStem_16 : decode cX7_haveOneStem 16 = .ok (.aload_n 0, 1) := by decide +kernel
theorem dX7_haveOneStem_17 : decode cX7_haveOneStem 17 = .ok (.getfield 29, 3) := by decide +kernel
theorem dX7_haveOneStem_20 : decode cX7_haveOneStem 20 = .ok (.iload_n 1, 1) := by decide +kernel
theorem dX7_haveOneStem_21 : decode cX7_haveOneStem 21 = .ok (.iaload, 1) := by decide +kernel
theorem dX7_haveOneStem_22 : decode cX7_haveOneStem 22 = .ok (.aload_n 0, 1) := by decide +kernel
theorem dX7_haveOneStem_23 : decode cX7_haveOneStem 23 = .ok (.getfield 29, 3) := by decide +kernel
theorem dX7_haveOneStem_26 : decode cX7_haveOneStem 26 = .ok (.iload_n 2, 1) := by decide +kernel
theorem dX7_haveOneStem_27 : decode cX7_haveOneStem 27 = .ok (.iaload, 1) := by decide +kernel
theorem dX7_haveOneStem_28 : decode cX7_haveOneStem 28 = .ok (.if_icmp .eq 5, 3) := by decide +kernel
theorem dX7_haveOneStem_31 : decode cX7_haveOneStem 31 = .ok (.iconst 0, 1) := by decide +kernel
theorem dX7_haveOneStem_32 : decode cX7_haveOneStem 32 = .ok (.ireturn, 1) := by decide +kernel
theorem dX7_haveOneStem_33 : decode cX7_haveOneStem 33 = .ok (.iconst 0, 1) := by decide +kernel
theorem dX7_haveOneStem_34 : decode cX7_haveOneStem 34 = .ok (.istore_n 3, 1) := by decide +kernel
theorem dX7_haveOneStem_35 : decode cX7_haveOneStem 35 = .ok (.iload_n 3, 1) := by decide +kernel
theorem dX7_haveOneStem_36 : decode cX7_haveOneStem 36 = .ok (.aload_n 0, 1) := by decide +kernel
theorem dX7_haveOneStem_37 : decode cX7_haveOneStem 37 = .ok (.getfield 29, 3) := by decide +kernel
theorem dX7_haveOneStem_40 : decode cX7_haveOneStem 40 = .ok (.iload_n 1, 1) := by decide +kernel
theorem dX7_haveOneStem_41 : decode cX7_haveOneStem 41 = .ok (.iaload, 1) := by decide +kernel
theorem dX7_haveOneStem_42 : decode cX7_haveOneStem 42 = .ok (.iconst 1, 1) := by decide +kernel
theorem dX7_haveOneStem_43 : decode cX7_haveOneStem 43 = .ok (.isub, 1) := by decide +kernel
theorem dX7_haveOneStem_44 : decode cX7_haveOneStem 44 = .ok (.if_icmp .ge 54, 3) := by decide +kernel
theorem dX7_haveOneStem_47 : decode cX7_haveOneStem 47 = .ok (.aload_n 0, 1) := by decide +kernel
theorem dX7_haveOneStem_48 : decode cX7_haveOneStem 48 = .ok (.aload_n 0, 1) := by decide +kernel
theorem dX7_haveOneStem_49 : decode cX7_haveOneStem 49 = .ok (.getfield 23, 3) := by decide +kernel
theorem dX7_haveOneStem_52 : decode cX7_haveOneStem 52 = .ok (.iload_n 1, 1) := by decide +kernel
theorem dX7_haveOneStem_53 : decode cX7_haveOneStem 53 = .ok (.iaload, 1) := by decide +kernel
theorem dX7_haveOneStem_54 : decode cX7_haveOneStem 54 = .ok (.aload_n 0, 1) := by decide +kernel
theorem dX7_haveOneStem_55 : decode cX7_haveOneStem 55 = .ok (.getfield 26, 3) := by decide +kernel
theorem dX7_haveOneStem_58 : decode cX7_haveOneStem 58 = .ok (.iload_n 1, 1) := by decide +kernel
theorem dX7_haveOneStem_59 : decode cX7_haveOneStem 59 = .ok (.iaload, 1) := by decide +kernel
theorem dX7_haveOneStem_60 : decode cX7_haveOneStem 60 = .ok (.iload_n 3, 1) := by decide +kernel
theorem dX7_haveOneStem_61 : decode cX7_haveOneStem 61 = .ok (.iadd, 1) := by decide +kernel
theorem dX7_haveOneStem_62 : decode cX7_haveOneStem 62 = .ok (.invokevirtual 67, 3) := by decide +kernel
theorem dX7_haveOneStem_65 : decode cX7_haveOneStem 65 = .ok (.istore 4, 2) := by decide +kernel
theorem dX7_haveOneStem_67 : decode cX7_haveOneStem 67 = .ok (.aload_n 0, 1) := by decide +kernel
theorem dX7_haveOneStem_68 : decode cX7_haveOneStem 68 = .ok (.aload_n 0, 1) := by decide +kernel
theorem dX7_haveOneStem_69 : decode cX7_haveOneStem 69 = .ok (.getfield 23, 3) := by decide +kernel
theorem dX7_haveOneStem_72 : decode cX7_haveOneStem 72 = .ok (.iload_n 2, 1) := by decide +kernel
theorem dX7_haveOneStem_73 : decode cX7_haveOneStem 73 = .ok (.iaload, 1) := by decide +kernel
theorem dX7_haveOneStem_74 : decode cX7_haveOneStem 74 = .ok (.aload_n 0, 1) := by decide +kernel
theorem dX7_haveOneStem_75 : decode cX7_haveOneStem 75 = .ok (.getfield 26, 3) := by decide +kernel
theorem dX7_haveOneStem_78 : decode cX7_haveOneStem 78 = .ok (.iload_n 2, 1) := by decide +kernel
theorem dX7_haveOneStem_79 : decode cX7_haveOneStem 79 = .ok (.iaload, 1) := by decide +kernel
theorem dX7_haveOneStem_80 : decode cX7_haveOneStem 80 = .ok (.iload_n 3, 1) := by decide +kernel
theorem dX7_haveOneStem_81 : decode cX7_haveOneStem 81 = .ok (.iadd, 1) := by decide +kernel
theorem dX7_haveOneStem_82 : decode cX7_haveOneStem 82 = .ok (.invokevirtual 67, 3) := by decide +kernel
theorem dX7_haveOneStem_85 : decode cX7_haveOneStem 85 = .ok (.iload 4, 2) := by decide +kernel
theorem dX7_haveOneStem_87 : decode cX7_haveOneStem 87 = .ok (.if_icmp .eq 5, 3) := by decide +kernel
theorem dX7_haveOneStem_90 : decode cX7_haveOneStem 90 = .ok (.iconst 0, 1) := by decide +kernel
theorem dX7_haveOneStem_91 : decode cX7_haveOneStem 91 = .ok (.ireturn, 1) := by decide +kernel
theorem dX7_haveOneStem_92 : decode cX7_haveOneStem 92 = .ok (.iinc 3 1, 3) := by decide +kernel
theorem dX7_haveOneStem_95 : decode cX7_haveOneStem 95 = .ok (.goto (-60), 3) := by decide +kernel
theorem dX7_haveOneStem_98 : decode cX7_haveOneStem 98 = .ok (.iconst 1, 1) := by decide +kernel
theorem dX7_haveOneStem_99 : decode cX7_haveOneStem 99 = .ok (.ireturn, 1) := by decide +kernel
theorem dX7_tell_0 : decode cX7_tell 0 = .ok (.aload_n 0, 1) := by decide +kernel
theorem dX7_tell_1 : decode cX7_tell 1 = .ok (.iload_n 1, 1) := by decide +kernel
theorem dX7_tell_2 : decode cX7_tell 2 = .ok (.invokevirtual 49, 3) := by decide +kernel
theorem dX7_tell_5 : decode cX7_tell 5 = .ok (.ifCond .ne 6, 3) := by decide +kernel
theorem dX7_tell_8 : decode cX7_tell 8 = .ok (.bipush (-10), 2) := by decide +kernel
theorem dX7_tell_10 : decode cX7_tell 10 = .ok (.ireturn, 1) := by decide +kernel
theorem dX7_tell_11 : decode cX7_tell 11 = .ok (.iload_n 2, 1) := by decide +kernel
theorem dX7_tell_12 : decode cX7_tell 12 = .ok (.tableswitch 96 0 5 #[40, 47, 69, 76, 83, 90], 40) := by decide +kernel
theorem dX7_tell_52 : decode cX7_tell 52 = .ok (.aload_n 0, 1) := by decide +kernel
theorem dX7_tell_53 : decode cX7_tell 53 = .ok (.getfield 20, 3) := by decide +kernel
theorem dX7_tell_56 : decode cX7_tell 56 = .ok (.iload_n 1, 1) := by decide +kernel
theorem dX7_tell_57 : decode cX7_tell 57 = .ok (.iaload, 1) := by decide +kernel
theorem dX7_tell_58 : decode cX7_tell 58 = .ok (.ireturn, 1) := by decide +kernel
theorem dX7_tell_59 : decode cX7_tell 59 = .ok (.aload_n 0, 1) := by decide +kernel
theorem dX7_tell_60 : decode cX7_tell 60 = .ok (.getfield 20, 3) := by decide +kernel
theorem dX7_tell_63 : decode cX7_tell 63 = .ok (.iload_n 1, 1) := by decide +kernel
theorem dX7_tell_64 : decode cX7_tell 64 = .ok (.iaload, 1) := by decide +kernel
theorem dX7_tell_65 : decode cX7_tell 65 = .ok (.aload_n 0, 1) := by decide +kernel
theorem dX7_tell_66 : decode cX7_tell 66 = .ok (.iload_n 1, 1) := by decide +kernel
theorem dX7_tell_67 : decode cX7_tell 67 = .ok (.iconst (-1), 1) := by decide +kernel
theorem dX7_tell_68 : decode cX7_tell 68 = .ok (.invokevirtual 84, 3) := by decide +kernel
theorem dX7_tell_71 : decode cX7_tell 71 = .ok (.isub, 1) := by decide +kernel
theorem dX7_tell_72 : decode cX7_tell 72 = .ok (.aload_n 0, 1) := by decide +kernel
theorem dX7_tell_73 : decode cX7_tell 73 = .ok (.iload_n 1, 1) := by decide +kernel
theorem dX7_tell_74 : decode cX7_tell 74 = .ok (.bipush (-2), 2) := by decide +kernel
theorem dX7_tell_76 : decode cX7_tell 76 = .ok (.invokevirtual 84, 3) := by decide +kernel
theorem dX7_tell_79 : decode cX7_tell 79 = .ok (.isub, 1) := by decide +kernel
theorem dX7_tell_80 : decode cX7_tell 80 = .ok (.ireturn, 1) := by decide +kernel
theorem dX7_tell_81 : decode cX7_tell 81 = .ok (.aload_n 0, 1) := by decide +kernel
theorem dX7_tell_82 : decode cX7_tell 82 = .ok (.iload_n 1, 1) := by decide +kernel
theorem dX7_tell_83 : decode cX7_tell 83 = .ok (.iconst (-1), 1) := by decide +kernel
theorem dX7_tell_84 : decode cX7_tell 84 = .ok (.invokevirtual 84, 3) := by decide +kernel
theorem dX7_tell_87 : decode cX7_tell 87 = .ok (.ireturn, 1) := by decide +kernel
theorem dX7_tell_88 : decode cX7_tell 88 = .ok (.aload_n 0, 1) := by decide +kernel
theorem dX7_tell_89 : decode cX7_tell 89 = .ok (.iload_n 1, 1) := by decide +kernel
theorem dX7_tell_90 : decode cX7_tell 90 = .ok (.iconst 0, 1) := by decide +kernel
theorem dX7_tell_91 : decode cX7_tell 91 = .ok (.invokevirtual 87, 3) := by decide +kernel
theorem dX7_tell_94 : decode cX7_tell 94 = .ok (.ireturn, 1) := by decide +kernel
theorem dX7_tell_95 : decode cX7_tell 95 = .ok (.aload_n 0, 1) := by decide +kernel
theorem dX7_tell_96 : decode cX7_tell 96 = .ok (.iload_n 1, 1) := by decide +kernel
theorem dX7_tell_97 : decode cX7_tell 97 = .ok (.iconst 1, 1) := by decide +kernel
theorem dX7_tell_98 : decode cX7_tell 98 = .ok (.invokevirtual 87, 3) := by decide +kernel
theorem dX7_tell_101 : decode cX7_tell 101 = .ok (.ireturn, 1) := by decide +kernel
theorem dX7_tell_102 : decode cX7_tell 102 = .ok (.aload_n 0, 1) := by decide +kernel
theorem dX7_tell_103 : decode cX7_tell 103 = .ok (.iload_n 1, 1) := by decide +kernel
theorem dX7_tell_104 : decode cX7_tell 104 = .ok (.invokevirtual 91, 3) := by decide +kernel
theorem dX7_tell_107 : decode cX7_tell 107 = .ok (.ireturn, 1) := by decide +kernel
theorem dX7_tell_108 : decode cX7_tell 108 = .ok (.iload_n 2, 1) := by decide +kernel
theorem dX7_tell_109 : decode cX7_tell 109 = .ok (.bipush 10, 2) := by decide +kernel
theorem dX7_tell_111 : decode cX7_tell 111 = .ok (.if_icmp .lt 28, 3) := by decide +kernel
theorem dX7_tell_114 : decode cX7_tell 114 = .ok (.iload_n 2, 1) := by decide +kernel
theorem dX7_tell_115 : decode cX7_tell 115 = .ok (.bipush 10, 2) := by decide +kernel
theorem dX7_tell_117 : decode cX7_tell 117 = .ok (.aload_n 0, 1) := by decide +kernel
theorem dX7_tell_118 : decode cX7_tell 118 = .ok (.getfield 20, 3) := by decide +kernel
theorem dX7_tell_121 : decode cX7_tell 121 = .ok (.iload_n 1, 1) := by decide +kernel
theorem dX7_tell_122 : decode cX7_tell 122 = .ok (.iaload, 1) := by decide +kernel
theorem dX7_tell_123 : decode cX7_tell 123 = .ok (.iadd, 1) := by decide +kernel
theorem dX7_tell_124 : decode cX7_tell 124 = .ok (.if_icmp .ge 15, 3) := by decide +kernel
theorem dX7_tell_127 : decode cX7_tell 127 = .ok (.aload_n 0, 1) := by decide +kernel
theorem dX7_tell_128 : decode cX7_tell 128 = .ok (.iload_n 1, 1) := by decide +kernel
theorem dX7_tell_129 : decode cX7_tell 129 = .ok (.iload_n 2, 1) := by decide +kernel
theorem dX7_tell_130 : decode cX7_tell 130 = .ok (.bipush 10, 2) := by decide +kernel
theorem dX7_tell_132 : decode cX7_tell 132 = .ok (.isub, 1) := by decide +kernel
theorem dX7_tell_133 : decode cX7_tell 133 = .ok (.invokevirtual 67, 3) := by decide +kernel
theorem dX7_tell_136 : decode cX7_tell 136 = .ok (.goto 5, 3) := by decide +kernel
theorem dX7_tell_139 : decode cX7_tell 139 = .ok (.bipush (-10), 2) := by decide +kernel
theorem dX7_tell_141 : decode cX7_tell 141 = .ok (.ireturn, 1) := by decide +kernel
theorem dX7_cellsLike_0 : decode cX7_cellsLike 0 = .ok (.iconst 0, 1) := by decide +kernel
theorem dX7_cellsLike_1 : decode cX7_cellsLike 1 = .ok (.istore_n 3, 1) := by decide +kernel
theorem dX7_cellsLike_2 : decode cX7_cellsLike 2 = .ok (.iconst 0, 1) := by decide +kernel
theorem dX7_cellsLike_3 : decode cX7_cellsLike 3 = .ok (.istore 4, 2) := by decide +kernel
theorem dX7_cellsLike_5 : decode cX7_cellsLike 5 = .ok (.iload 4, 2) := by decide +kernel
theorem dX7_cellsLike_7 : decode cX7_cellsLike 7 = .ok (.aload_n 0, 1) := by decide +kernel
theorem dX7_cellsLike_8 : decode cX7_cellsLike 8 = .ok (.iload_n 1, 1) := by decide +kernel
theorem dX7_cellsLike_9 : decode cX7_cellsLike 9 = .ok (.invokevirtual 94, 3) := by decide +kernel
theorem dX7_cellsLike_12 : decode cX7_cellsLike 12 = .ok (.if_icmp .ge 23, 3) := by decide +kernel
theorem dX7_cellsLike_15 : decode cX7_cellsLike 15 = .ok (.aload_n 0, 1) := by decide +kernel
theorem dX7_cellsLike_16 : decode cX7_cellsLike 16 = .ok (.iload_n 1, 1) := by decide +kernel
theorem dX7_cellsLike_17 : decode cX7_cellsLike 17 = .ok (.iload 4, 2) := by decide +kernel
theorem dX7_cellsLike_19 : decode cX7_cellsLike 19 = .ok (.invokevirtual 67, 3) := by decide +kernel
theorem dX7_cellsLike_22 : decode cX7_cellsLike 22 = .ok (.iload_n 2, 1) := by decide +kernel
theorem dX7_cellsLike_23 : decode cX7_cellsLike 23 = .ok (.if_icmp .ne 6, 3) := by decide +kernel
theorem dX7_cellsLike_26 : decode cX7_cellsLike 26 = .ok (.iinc 3 1, 3) := by decide +kernel
theorem dX7_cellsLike_29 : decode cX7_cellsLike 29 = .ok (.iinc 4 1, 3) := by decide +kernel
theorem dX7_cellsLike_32 : decode cX7_cellsLike 32 = .ok (.goto (-27), 3) := by decide +kernel
theorem dX7_cellsLike_35 : decode cX7_cellsLike 35 = .ok (.iload_n 3, 1) := by decide +kernel
theorem dX7_cellsLike_36 : decode cX7_cellsLike 36 = .ok (.ireturn, 1) := by decide +kernel
theorem dX7_wordsIn_0 : decode cX7_wordsIn 0 = .ok (.iconst 0, 1) := by decide +kernel
theorem dX7_wordsIn_1 : decode cX7_wordsIn 1 = .ok (.istore_n 3, 1) := by decide +kernel
theorem dX7_wordsIn_2 : decode cX7_wordsIn 2 = .ok (.iconst 0, 1) := by decide +kernel
theorem dX7_wordsIn_3 : decode cX7_wordsIn 3 = .ok (.istore 4, 2) := by decide +kernel
theorem dX7_wordsIn_5 : decode cX7_wordsIn 5 = .ok (.iload 4, 2) := by decide +kernel
theorem dX7_wordsIn_7 : decode cX7_wordsIn 7 = .ok (.aload_n 0, 1) := by decide +kernel
theorem dX7_wordsIn_8 : decode cX7_wordsIn 8 = .ok (.getfield 60, 3) := by decide +kernel
theorem dX7_wordsIn_11 : decode cX7_wordsIn 11 = .ok (.if_icmp .ge 36, 3) := by decide +kernel
theorem dX7_wordsIn_14 : decode cX7_wordsIn 14 = .ok (.aload_n 0, 1) := by decide +kernel
theorem dX7_wordsIn_15 : decode cX7_wordsIn 15 = .ok (.getfield 23, 3) := by decide +kernel
theorem dX7_wordsIn_18 : decode cX7_wordsIn 18 = .ok (.iload 4, 2) := by decide +kernel
theorem dX7_wordsIn_20 : decode cX7_wordsIn 20 = .ok (.iaload, 1) := by decide +kernel
theorem dX7_wordsIn_21 : decode cX7_wordsIn 21 = .ok (.iload_n 1, 1) := by decide +kernel
theorem dX7_wordsIn_22 : decode cX7_wordsIn 22 = .ok (.if_icmp .ne 19, 3) := by decide +kernel
theorem dX7_wordsIn_25 : decode cX7_wordsIn 25 = .ok (.iload_n 2, 1) := by decide +kernel
theorem dX7_wordsIn_26 : decode cX7_wordsIn 26 = .ok (.ifCond .eq 12, 3) := by decide +kernel
theorem dX7_wordsIn_29 : decode cX7_wordsIn 29 = .ok (.aload_n 0, 1) := by decide +kernel
theorem dX7_wordsIn_30 : decode cX7_wordsIn 30 = .ok (.iload 4, 2) := by decide +kernel
theorem dX7_wordsIn_32 : decode cX7_wordsIn 32 = .ok (.invokevirtual 97, 3) := by decide +kernel
theorem dX7_wordsIn_35 : decode cX7_wordsIn 35 = .ok (.ifCond .eq 6, 3) := by decide +kernel
theorem dX7_wordsIn_38 : decode cX7_wordsIn 38 = .ok (.iinc 3 1, 3) := by decide +kernel
theorem dX7_wordsIn_41 : decode cX7_wordsIn 41 = .ok (.iinc 4 1, 3) := by decide +kernel
theorem dX7_wordsIn_44 : decode cX7_wordsIn 44 = .ok (.goto (-39), 3) := by decide +kernel
theorem dX7_wordsIn_47 : decode cX7_wordsIn 47 = .ok (.iload_n 3, 1) := by decide +kernel
theorem dX7_wordsIn_48 : decode cX7_wordsIn 48 = .ok (.ireturn, 1) := by decide +kernel
theorem dX7_longestWhole_0 : decode cX7_longestWhole 0 = .ok (.iconst 0, 1) := by decide +kernel
theorem dX7_longestWhole_1 : decode cX7_longestWhole 1 = .ok (.istore_n 2, 1) := by decide +kernel
theorem dX7_longestWhole_2 : decode cX7_longestWhole 2 = .ok (.iconst 0, 1) := by decide +kernel
theorem dX7_longestWhole_3 : decode cX7_longestWhole 3 = .ok (.istore_n 3, 1) := by decide +kernel
theorem dX7_longestWhole_4 : decode cX7_longestWhole 4 = .ok (.iload_n 3, 1) := by decide +kernel
theorem dX7_longestWhole_5 : decode cX7_longestWhole 5 = .ok (.aload_n 0, 1) := by decide +kernel
theorem dX7_longestWhole_6 : decode cX7_longestWhole 6 = .ok (.getfield 60, 3) := by decide +kernel
theorem dX7_longestWhole_9 : decode cX7_longestWhole 9 = .ok (.if_icmp .ge 38, 3) := by decide +kernel
theorem dX7_longestWhole_12 : decode cX7_longestWhole 12 = .ok (.aload_n 0, 1) := by decide +kernel
theorem dX7_longestWhole_13 : decode cX7_longestWhole 13 = .ok (.getfield 23, 3) := by decide +kernel
theorem dX7_longestWhole_16 : decode cX7_longestWhole 16 = .ok (.iload_n 3, 1) := by decide +kernel
theorem dX7_longestWhole_17 : decode cX7_longestWhole 17 = .ok (.iaload, 1) := by decide +kernel
theorem dX7_longestWhole_18 : decode cX7_longestWhole 18 = .ok (.iload_n 1, 1) := by decide +kernel
theorem dX7_longestWhole_19 : decode cX7_longestWhole 19 = .ok (.if_icmp .ne 22, 3) := by decide +kernel
theorem dX7_longestWhole_22 : decode cX7_longestWhole 22 = .ok (.aload_n 0, 1) := by decide +kernel
theorem dX7_longestWhole_23 : decode cX7_longestWhole 23 = .ok (.iload_n 3, 1) := by decide +kernel
theorem dX7_longestWhole_24 : decode cX7_longestWhole 24 = .ok (.invokevirtual 97, 3) := by decide +kernel
theorem dX7_longestWhole_27 : decode cX7_longestWhole 27 = .ok (.ifCond .eq 14, 3) := by decide +kernel
theorem dX7_longestWhole_30 : decode cX7_longestWhole 30 = .ok (.iload_n 2, 1) := by decide +kernel
theorem dX7_longestWhole_31 : decode cX7_longestWhole 31 = .ok (.aload_n 0, 1) := by decide +kernel
theorem dX7_longestWhole_32 : decode cX7_longestWhole 32 = .ok (.getfield 29, 3) := by decide +kernel
theorem dX7_longestWhole_35 : decode cX7_longestWhole 35 = .ok (.iload_n 3, 1) := by decide +kernel
theorem dX7_longestWhole_36 : decode cX7_longestWhole 36 = .ok (.iaload, 1) := by decide +kernel
theorem dX7_longestWhole_37 : decode cX7_longestWhole 37 = .ok (.invokestatic 100, 3) := by decide +kernel
theorem dX7_longestWhole_40 : decode cX7_longestWhole 40 = .ok (.istore_n 2, 1) := by decide +kernel
theorem dX7_longestWhole_41 : decode cX7_longestWhole 41 = .ok (.iinc 3 1, 3) := by decide +kernel
theorem dX7_longestWhole_44 : decode cX7_longestWhole 44 = .ok (.goto (-40), 3) := by decide +kernel
theorem dX7_longestWhole_47 : decode cX7_longestWhole 47 = .ok (.iload_n 2, 1) := by decide +kernel
theorem dX7_longestWhole_48 : decode cX7_longestWhole 48 = .ok (.ireturn, 1) := by decide +kernel
theorem dX7_timesOf_0 : decode cX7_timesOf 0 = .ok (.iconst 0, 1) := by decide +kernel
theorem dX7_timesOf_1 : decode cX7_timesOf 1 = .ok (.istore_n 2, 1) := by decide +kernel
theorem dX7_timesOf_2 : decode cX7_timesOf 2 = .ok (.iconst 0, 1) := by decide +kernel
theorem dX7_timesOf_3 : decode cX7_timesOf 3 = .ok (.istore_n 3, 1) := by decide +kernel
theorem dX7_timesOf_4 : decode cX7_timesOf 4 = .ok (.iload_n 3, 1) := by decide +kernel
theorem dX7_timesOf_5 : decode cX7_timesOf 5 = .ok (.aload_n 0, 1) := by decide +kernel
theorem dX7_timesOf_6 : decode cX7_timesOf 6 = .ok (.getfield 45, 3) := by decide +kernel
theorem dX7_timesOf_9 : decode cX7_timesOf 9 = .ok (.if_icmp .ge 18, 3) := by decide +kernel
theorem dX7_timesOf_12 : decode cX7_timesOf 12 = .ok (.iload_n 2, 1) := by decide +kernel
theorem dX7_timesOf_13 : decode cX7_timesOf 13 = .ok (.aload_n 0, 1) := by decide +kernel
theorem dX7_timesOf_14 : decode cX7_timesOf 14 = .ok (.iload_n 3, 1) := by decide +kernel
theorem dX7_timesOf_15 : decode cX7_timesOf 15 = .ok (.iload_n 1, 1) := by decide +kernel
theorem dX7_timesOf_16 : decode cX7_timesOf 16 = .ok (.invokevirtual 84, 3) := by decide +kernel
theorem dX7_timesOf_19 : decode cX7_timesOf 19 = .ok (.iadd, 1) := by decide +kernel
theorem dX7_timesOf_20 : decode cX7_timesOf 20 = .ok (.istore_n 2, 1) := by decide +kernel
theorem dX7_timesOf_21 : decode cX7_timesOf 21 = .ok (.iinc 3 1, 3) := by decide +kernel
theorem dX7_timesOf_24 : decode cX7_timesOf 24 = .ok (.goto (-20), 3) := by decide +kernel
theorem dX7_timesOf_27 : decode cX7_timesOf 27 = .ok (.iload_n 2, 1) := by decide +kernel
theorem dX7_timesOf_28 : decode cX7_timesOf 28 = .ok (.ireturn, 1) := by decide +kernel
theorem dX7_timesOfAll_0 : decode cX7_timesOfAll 0 = .ok (.iconst 0, 1) := by decide +kernel
theorem dX7_timesOfAll_1 : decode cX7_timesOfAll 1 = .ok (.istore_n 1, 1) := by decide +kernel
theorem dX7_timesOfAll_2 : decode cX7_timesOfAll 2 = .ok (.iconst 0, 1) := by decide +kernel
theorem dX7_timesOfAll_3 : decode cX7_timesOfAll 3 = .ok (.istore_n 2, 1) := by decide +kernel
theorem dX7_timesOfAll_4 : decode cX7_timesOfAll 4 = .ok (.iload_n 2, 1) := by decide +kernel
theorem dX7_timesOfAll_5 : decode cX7_timesOfAll 5 = .ok (.aload_n 0, 1) := by decide +kernel
theorem dX7_timesOfAll_6 : decode cX7_timesOfAll 6 = .ok (.getfield 45, 3) := by decide +kernel
theorem dX7_timesOfAll_9 : decode cX7_timesOfAll 9 = .ok (.if_icmp .ge 33, 3) := by decide +kernel
theorem dX7_timesOfAll_12 : decode cX7_timesOfAll 12 = .ok (.iload_n 1, 1) := by decide +kernel
theorem dX7_timesOfAll_13 : decode cX7_timesOfAll 13 = .ok (.aload_n 0, 1) := by decide +kernel
theorem dX7_timesOfAll_14 : decode cX7_timesOfAll 14 = .ok (.getfield 20, 3) := by decide +kernel
theorem dX7_timesOfAll_17 : decode cX7_timesOfAll 17 = .ok (.iload_n 2, 1) := by decide +kernel
theorem dX7_timesOfAll_18 : decode cX7_timesOfAll 18 = .ok (.iaload, 1) := by decide +kernel
theorem dX7_timesOfAll_19 : decode cX7_timesOfAll 19 = .ok (.aload_n 0, 1) := by decide +kernel
theorem dX7_timesOfAll_20 : decode cX7_timesOfAll 20 = .ok (.iload_n 2, 1) := by decide +kernel
theorem dX7_timesOfAll_21 : decode cX7_timesOfAll 21 = .ok (.iconst (-1), 1) := by decide +kernel
theorem dX7_timesOfAll_22 : decode cX7_timesOfAll 22 = .ok (.invokevirtual 84, 3) := by decide +kernel
theorem dX7_timesOfAll_25 : decode cX7_timesOfAll 25 = .ok (.isub, 1) := by decide +kernel
theorem dX7_timesOfAll_26 : decode cX7_timesOfAll 26 = .ok (.aload_n 0, 1) := by decide +kernel
theorem dX7_timesOfAll_27 : decode cX7_timesOfAll 27 = .ok (.iload_n 2, 1) := by decide +kernel
theorem dX7_timesOfAll_28 : decode cX7_timesOfAll 28 = .ok (.bipush (-2), 2) := by decide +kernel
theorem dX7_timesOfAll_30 : decode cX7_timesOfAll 30 = .ok (.invokevirtual 84, 3) := by decide +kernel
theorem dX7_timesOfAll_33 : decode cX7_timesOfAll 33 = .ok (.isub, 1) := by decide +kernel
theorem dX7_timesOfAll_34 : decode cX7_timesOfAll 34 = .ok (.iadd, 1) := by decide +kernel
theorem dX7_timesOfAll_35 : decode cX7_timesOfAll 35 = .ok (.istore_n 1, 1) := by decide +kernel
theorem dX7_timesOfAll_36 : decode cX7_timesOfAll 36 = .ok (.iinc 2 1, 3) := by decide +kernel
theorem dX7_timesOfAll_39 : decode cX7_timesOfAll 39 = .ok (.goto (-35), 3) := by decide +kernel
theorem dX7_timesOfAll_42 : decode cX7_timesOfAll 42 = .ok (.iload_n 1, 1) := by decide +kernel
theorem dX7_timesOfAll_43 : decode cX7_timesOfAll 43 = .ok (.ireturn, 1) := by decide +kernel
theorem dX7_timesBeside_0 : decode cX7_timesBeside 0 = .ok (.iconst 0, 1) := by decide +kernel
theorem dX7_timesBeside_1 : decode cX7_timesBeside 1 = .ok (.istore_n 3, 1) := by decide +kernel
theorem dX7_timesBeside_2 : decode cX7_timesBeside 2 = .ok (.iconst 0, 1) := by decide +kernel
theorem dX7_timesBeside_3 : decode cX7_timesBeside 3 = .ok (.istore 4, 2) := by decide +kernel
theorem dX7_timesBeside_5 : decode cX7_timesBeside 5 = .ok (.iload 4, 2) := by decide +kernel
theorem dX7_timesBeside_7 : decode cX7_timesBeside 7 = .ok (.aload_n 0, 1) := by decide +kernel
theorem dX7_timesBeside_8 : decode cX7_timesBeside 8 = .ok (.getfield 45, 3) := by decide +kernel
theorem dX7_timesBeside_11 : decode cX7_timesBeside 11 = .ok (.if_icmp .ge 59, 3) := by decide +kernel
theorem dX7_timesBeside_14 : decode cX7_timesBeside 14 = .ok (.iconst 1, 1) := by decide +kernel
theorem dX7_timesBeside_15 : decode cX7_timesBeside 15 = .ok (.istore 5, 2) := by decide +kernel
theorem dX7_timesBeside_17 : decode cX7_timesBeside 17 = .ok (.iload 5, 2) := by decide +kernel
theorem dX7_timesBeside_19 : decode cX7_timesBeside 19 = .ok (.aload_n 0, 1) := by decide +kernel
theorem dX7_timesBeside_20 : decode cX7_timesBeside 20 = .ok (.getfield 20, 3) := by decide +kernel
theorem dX7_timesBeside_23 : decode cX7_timesBeside 23 = .ok (.iload 4, 2) := by decide +kernel
theorem dX7_timesBeside_25 : decode cX7_timesBeside 25 = .ok (.iaload, 1) := by decide +kernel
theorem dX7_timesBeside_26 : decode cX7_timesBeside 26 = .ok (.if_icmp .ge 38, 3) := by decide +kernel
theorem dX7_timesBeside_29 : decode cX7_timesBeside 29 = .ok (.aload_n 0, 1) := by decide +kernel
theorem dX7_timesBeside_30 : decode cX7_timesBeside 30 = .ok (.iload 4, 2) := by decide +kernel
theorem dX7_timesBeside_32 : decode cX7_timesBeside 32 = .ok (.iload 5, 2) := by decide +kernel
theorem dX7_timesBeside_34 : decode cX7_timesBeside 34 = .ok (.iconst 1, 1) := by decide +kernel
theorem dX7_timesBeside_35 : decode cX7_timesBeside 35 = .ok (.isub, 1) := by decide +kernel
theorem dX7_timesBeside_36 : decode cX7_timesBeside 36 = .ok (.invokevirtual 67, 3) := by decide +kernel
theorem dX7_timesBeside_39 : decode cX7_timesBeside 39 = .ok (.iload_n 1, 1) := by decide +kernel
theorem dX7_timesBeside_40 : decode cX7_timesBeside 40 = .ok (.if_icmp .ne 18, 3) := by decide +kernel
theorem dX7_timesBeside_43 : decode cX7_timesBeside 43 = .ok (.aload_n 0, 1) := by decide +kernel
theorem dX7_timesBeside_44 : decode cX7_timesBeside 44 = .ok (.iload 4, 2) := by decide +kernel
theorem dX7_timesBeside_46 : decode cX7_timesBeside 46 = .ok (.iload 5, 2) := by decide +kernel
theorem dX7_timesBeside_48 : decode cX7_timesBeside 48 = .ok (.invokevirtual 67, 3) := by decide +kernel
theorem dX7_timesBeside_51 : decode cX7_timesBeside 51 = .ok (.iload_n 2, 1) := by decide +kernel
theorem dX7_timesBeside_52 : decode cX7_timesBeside 52 = .ok (.if_icmp .ne 6, 3) := by decide +kernel
theorem dX7_timesBeside_55 : decode cX7_timesBeside 55 = .ok (.iinc 3 1, 3) := by decide +kernel
theorem dX7_timesBeside_58 : decode cX7_timesBeside 58 = .ok (.iinc 5 1, 3) := by decide +kernel
theorem dX7_timesBeside_61 : decode cX7_timesBeside 61 = .ok (.goto (-44), 3) := by decide +kernel
theorem dX7_timesBeside_64 : decode cX7_timesBeside 64 = .ok (.iinc 4 1, 3) := by decide +kernel
theorem dX7_timesBeside_67 : decode cX7_timesBeside 67 = .ok (.goto (-62), 3) := by decide +kernel
theorem dX7_timesBeside_70 : decode cX7_timesBeside 70 = .ok (.iload_n 3, 1) := by decide +kernel
theorem dX7_timesBeside_71 : decode cX7_timesBeside 71 = .ok (.ireturn, 1) := by decide +kernel
theorem dX7_placesBeside_0 : decode cX7_placesBeside 0 = .ok (.iconst 0, 1) := by decide +kernel
theorem dX7_placesBeside_1 : decode cX7_placesBeside 1 = .ok (.istore_n 1, 1) := by decide +kernel
theorem dX7_placesBeside_2 : decode cX7_placesBeside 2 = .ok (.iconst 0, 1) := by decide +kernel
theorem dX7_placesBeside_3 : decode cX7_placesBeside 3 = .ok (.istore_n 2, 1) := by decide +kernel
theorem dX7_placesBeside_4 : decode cX7_placesBeside 4 = .ok (.iload_n 2, 1) := by decide +kernel
theorem dX7_placesBeside_5 : decode cX7_placesBeside 5 = .ok (.aload_n 0, 1) := by decide +kernel
theorem dX7_placesBeside_6 : decode cX7_placesBeside 6 = .ok (.getfield 45, 3) := by decide +kernel
theorem dX7_placesBeside_9 : decode cX7_placesBeside 9 = .ok (.if_icmp .ge 50, 3) := by decide +kernel
theorem dX7_placesBeside_12 : decode cX7_placesBeside 12 = .ok (.iconst 1, 1) := by decide +kernel
theorem dX7_placesBeside_13 : decode cX7_placesBeside 13 = .ok (.istore_n 3, 1) := by decide +kernel
theorem dX7_placesBeside_14 : decode cX7_placesBeside 14 = .ok (.iload_n 3, 1) := by decide +kernel
theorem dX7_placesBeside_15 : decode cX7_placesBeside 15 = .ok (.aload_n 0, 1) := by decide +kernel
theorem dX7_placesBeside_16 : decode cX7_placesBeside 16 = .ok (.getfield 20, 3) := by decide +kernel
theorem dX7_placesBeside_19 : decode cX7_placesBeside 19 = .ok (.iload_n 2, 1) := by decide +kernel
theorem dX7_placesBeside_20 : decode cX7_placesBeside 20 = .ok (.iaload, 1) := by decide +kernel
theorem dX7_placesBeside_21 : decode cX7_placesBeside 21 = .ok (.if_icmp .ge 32, 3) := by decide +kernel
theorem dX7_placesBeside_24 : decode cX7_placesBeside 24 = .ok (.aload_n 0, 1) := by decide +kernel
theorem dX7_placesBeside_25 : decode cX7_placesBeside 25 = .ok (.iload_n 2, 1) := by decide +kernel
theorem dX7_placesBeside_26 : decode cX7_placesBeside 26 = .ok (.iload_n 3, 1) := by decide +kernel
theorem dX7_placesBeside_27 : decode cX7_placesBeside 27 = .ok (.iconst 1, 1) := by decide +kernel
theorem dX7_placesBeside_28 : decode cX7_placesBeside 28 = .ok (.isub, 1) := by decide +kernel
theorem dX7_placesBeside_29 : decode cX7_placesBeside 29 = .ok (.invokevirtual 67, 3) := by decide +kernel
theorem dX7_placesBeside_32 : decode cX7_placesBeside 32 = .ok (.ifCond .lt 15, 3) := by decide +kernel
theorem dX7_placesBeside_35 : decode cX7_placesBeside 35 = .ok (.aload_n 0, 1) := by decide +kernel
theorem dX7_placesBeside_36 : decode cX7_placesBeside 36 = .ok (.iload_n 2, 1) := by decide +kernel
theorem dX7_placesBeside_37 : decode cX7_placesBeside 37 = .ok (.iload_n 3, 1) := by decide +kernel
theorem dX7_placesBeside_38 : decode cX7_placesBeside 38 = .ok (.invokevirtual 67, 3) := by decide +kernel
theorem dX7_placesBeside_41 : decode cX7_placesBeside 41 = .ok (.ifCond .lt 6, 3) := by decide +kernel
theorem dX7_placesBeside_44 : decode cX7_placesBeside 44 = .ok (.iinc 1 1, 3) := by decide +kernel
theorem dX7_placesBeside_47 : decode cX7_placesBeside 47 = .ok (.iinc 3 1, 3) := by decide +kernel
theorem dX7_placesBeside_50 : decode cX7_placesBeside 50 = .ok (.goto (-36), 3) := by decide +kernel
theorem dX7_placesBeside_53 : decode cX7_placesBeside 53 = .ok (.iinc 2 1, 3) := by decide +kernel
theorem dX7_placesBeside_56 : decode cX7_placesBeside 56 = .ok (.goto (-52), 3) := by decide +kernel
theorem dX7_placesBeside_59 : decode cX7_placesBeside 59 = .ok (.iload_n 1, 1) := by decide +kernel
theorem dX7_placesBeside_60 : decode cX7_placesBeside 60 = .ok (.ireturn, 1) := by decide +kernel
theorem dX7_chanceAbove_0 : decode cX7_chanceAbove 0 = .ok (.aload_n 0, 1) := by decide +kernel
theorem dX7_chanceAbove_1 : decode cX7_chanceAbove 1 = .ok (.invokevirtual 105, 3) := by decide +kernel
theorem dX7_chanceAbove_4 : decode cX7_chanceAbove 4 = .ok (.iconst 2, 1) := by decide +kernel
theorem dX7_chanceAbove_5 : decode cX7_chanceAbove 5 = .ok (.if_icmp .ge 5, 3) := by decide +kernel
theorem dX7_chanceAbove_8 : decode cX7_chanceAbove 8 = .ok (.lconst 0, 1) := by decide +kernel
theorem dX7_chanceAbove_9 : decode cX7_chanceAbove 9 = .ok (.lreturn, 1) := by decide +kernel
theorem dX7_chanceAbove_10 : decode cX7_chanceAbove 10 = .ok (.iload_n 1, 1) := by decide +kernel
theorem dX7_chanceAbove_11 : decode cX7_chanceAbove 11 = .ok (.iload_n 2, 1) := by decide +kernel
theorem dX7_chanceAbove_12 : decode cX7_chanceAbove 12 = .ok (.if_icmp .ne 14, 3) := by decide +kernel
theorem dX7_chanceAbove_15 : decode cX7_chanceAbove 15 = .ok (.aload_n 0, 1) := by decide +kernel
theorem dX7_chanceAbove_16 : decode cX7_chanceAbove 16 = .ok (.iload_n 2, 1) := by decide +kernel
theorem dX7_chanceAbove_17 : decode cX7_chanceAbove 17 = .ok (.invokevirtual 109, 3) := by decide +kernel
theorem dX7_chanceAbove_20 : decode cX7_chanceAbove 20 = .ok (.iconst 1, 1) := by decide +kernel
theorem dX7_chanceAbove_21 : decode cX7_chanceAbove 21 = .ok (.isub, 1) := by decide +kernel
theorem dX7_chanceAbove_22 : decode cX7_chanceAbove 22 = .ok (.i2l, 1) := by decide +kernel
theorem dX7_chanceAbove_23 : decode cX7_chanceAbove 23 = .ok (.goto 9, 3) := by decide +kernel
theorem dX7_chanceAbove_26 : decode cX7_chanceAbove 26 = .ok (.aload_n 0, 1) := by decide +kernel
theorem dX7_chanceAbove_27 : decode cX7_chanceAbove 27 = .ok (.iload_n 2, 1) := by decide +kernel
theorem dX7_chanceAbove_28 : decode cX7_chanceAbove 28 = .ok (.invokevirtual 109, 3) := by decide +kernel
theorem dX7_chanceAbove_31 : decode cX7_chanceAbove 31 = .ok (.i2l, 1) := by decide +kernel
theorem dX7_chanceAbove_32 : decode cX7_chanceAbove 32 = .ok (.lstore_n 3, 1) := by decide +kernel
theorem dX7_chanceAbove_33 : decode cX7_chanceAbove 33 = .ok (.aload_n 0, 1) := by decide +kernel
theorem dX7_chanceAbove_34 : decode cX7_chanceAbove 34 = .ok (.invokevirtual 112, 3) := by decide +kernel
theorem dX7_chanceAbove_37 : decode cX7_chanceAbove 37 = .ok (.i2l, 1) := by decide +kernel
theorem dX7_chanceAbove_38 : decode cX7_chanceAbove 38 = .ok (.aload_n 0, 1) := by decide +kernel
theorem dX7_chanceAbove_39 : decode cX7_chanceAbove 39 = .ok (.iload_n 1, 1) := by decide +kernel
theorem dX7_chanceAbove_40 : decode cX7_chanceAbove 40 = .ok (.invokevirtual 109, 3) := by decide +kernel
theorem dX7_chanceAbove_43 : decode cX7_chanceAbove 43 = .ok (.i2l, 1) := by decide +kernel
theorem dX7_chanceAbove_44 : decode cX7_chanceAbove 44 = .ok (.lmul, 1) := by decide +kernel
theorem dX7_chanceAbove_45 : decode cX7_chanceAbove 45 = .ok (.lload_n 3, 1) := by decide +kernel
theorem dX7_chanceAbove_46 : decode cX7_chanceAbove 46 = .ok (.lmul, 1) := by decide +kernel
theorem dX7_chanceAbove_47 : decode cX7_chanceAbove 47 = .ok (.lreturn, 1) := by decide +kernel
theorem dX7_chanceBelow_0 : decode cX7_chanceBelow 0 = .ok (.aload_n 0, 1) := by decide +kernel
theorem dX7_chanceBelow_1 : decode cX7_chanceBelow 1 = .ok (.invokevirtual 105, 3) := by decide +kernel
theorem dX7_chanceBelow_4 : decode cX7_chanceBelow 4 = .ok (.i2l, 1) := by decide +kernel
theorem dX7_chanceBelow_5 : decode cX7_chanceBelow 5 = .ok (.lstore_n 1, 1) := by decide +kernel
theorem dX7_chanceBelow_6 : decode cX7_chanceBelow 6 = .ok (.lload_n 1, 1) := by decide +kernel
theorem dX7_chanceBelow_7 : decode cX7_chanceBelow 7 = .ok (.ldc2_w 115, 3) := by decide +kernel
theorem dX7_chanceBelow_10 : decode cX7_chanceBelow 10 = .ok (.lcmp, 1) := by decide +kernel
theorem dX7_chanceBelow_11 : decode cX7_chanceBelow 11 = .ok (.ifCond .ge 7, 3) := by decide +kernel
theorem dX7_chanceBelow_14 : decode cX7_chanceBelow 14 = .ok (.lconst 1, 1) := by decide +kernel
theorem dX7_chanceBelow_15 : decode cX7_chanceBelow 15 = .ok (.goto 8, 3) := by decide +kernel
theorem dX7_chanceBelow_18 : decode cX7_chanceBelow 18 = .ok (.lload_n 1, 1) := by decide +kernel
theorem dX7_chanceBelow_19 : decode cX7_chanceBelow 19 = .ok (.lload_n 1, 1) := by decide +kernel
theorem dX7_chanceBelow_20 : decode cX7_chanceBelow 20 = .ok (.lconst 1, 1) := by decide +kernel
theorem dX7_chanceBelow_21 : decode cX7_chanceBelow 21 = .ok (.lsub, 1) := by decide +kernel
theorem dX7_chanceBelow_22 : decode cX7_chanceBelow 22 = .ok (.lmul, 1) := by decide +kernel
theorem dX7_chanceBelow_23 : decode cX7_chanceBelow 23 = .ok (.lreturn, 1) := by decide +kernel
theorem dX7_greatestShared_0 : decode cX7_greatestShared 0 = .ok (.iconst 0, 1) := by decide +kernel
theorem dX7_greatestShared_1 : decode cX7_greatestShared 1 = .ok (.istore 4, 2) := by decide +kernel
theorem dX7_greatestShared_3 : decode cX7_greatestShared 3 = .ok (.iload 4, 2) := by decide +kernel
theorem dX7_greatestShared_5 : decode cX7_greatestShared 5 = .ok (.sipush 200, 3) := by decide +kernel
theorem dX7_greatestShared_8 : decode cX7_greatestShared 8 = .ok (.if_icmp .ge 25, 3) := by decide +kernel
theorem dX7_greatestShared_11 : decode cX7_greatestShared 11 = .ok (.lload_n 2, 1) := by decide +kernel
theorem dX7_greatestShared_12 : decode cX7_greatestShared 12 = .ok (.lconst 0, 1) := by decide +kernel
theorem dX7_greatestShared_13 : decode cX7_greatestShared 13 = .ok (.lcmp, 1) := by decide +kernel
theorem dX7_greatestShared_14 : decode cX7_greatestShared 14 = .ok (.ifCond .eq 19, 3) := by decide +kernel
theorem dX7_greatestShared_17 : decode cX7_greatestShared 17 = .ok (.lload_n 0, 1) := by decide +kernel
theorem dX7_greatestShared_18 : decode cX7_greatestShared 18 = .ok (.lload_n 2, 1) := by decide +kernel
theorem dX7_greatestShared_19 : decode cX7_greatestShared 19 = .ok (.lrem, 1) := by decide +kernel
theorem dX7_greatestShared_20 : decode cX7_greatestShared 20 = .ok (.lstore 5, 2) := by decide +kernel
theorem dX7_greatestShared_22 : decode cX7_greatestShared 22 = .ok (.lload_n 2, 1) := by decide +kernel
theorem dX7_greatestShared_23 : decode cX7_greatestShared 23 = .ok (.lstore_n 0, 1) := by decide +kernel
theorem dX7_greatestShared_24 : decode cX7_greatestShared 24 = .ok (.lload 5, 2) := by decide +kernel
theorem dX7_greatestShared_26 : decode cX7_greatestShared 26 = .ok (.lstore_n 2, 1) := by decide +kernel
theorem dX7_greatestShared_27 : decode cX7_greatestShared 27 = .ok (.iinc 4 1, 3) := by decide +kernel
theorem dX7_greatestShared_30 : decode cX7_greatestShared 30 = .ok (.goto (-27), 3) := by decide +kernel
theorem dX7_greatestShared_33 : decode cX7_greatestShared 33 = .ok (.lload_n 0, 1) := by decide +kernel
theorem dX7_greatestShared_34 : decode cX7_greatestShared 34 = .ok (.lreturn, 1) := by decide +kernel
theorem dX7_likeEdges_0 : decode cX7_likeEdges 0 = .ok (.iconst 0, 1) := by decide +kernel
theorem dX7_likeEdges_1 : decode cX7_likeEdges 1 = .ok (.istore_n 2, 1) := by decide +kernel
theorem dX7_likeEdges_2 : decode cX7_likeEdges 2 = .ok (.iload_n 2, 1) := by decide +kernel
theorem dX7_likeEdges_3 : decode cX7_likeEdges 3 = .ok (.bipush 24, 2) := by decide +kernel
theorem dX7_likeEdges_5 : decode cX7_likeEdges 5 = .ok (.if_icmp .ge 16, 3) := by decide +kernel
theorem dX7_likeEdges_8 : decode cX7_likeEdges 8 = .ok (.aload_n 0, 1) := by decide +kernel
theorem dX7_likeEdges_9 : decode cX7_likeEdges 9 = .ok (.getfield 38, 3) := by decide +kernel
theorem dX7_likeEdges_12 : decode cX7_likeEdges 12 = .ok (.iload_n 2, 1) := by decide +kernel
theorem dX7_likeEdges_13 : decode cX7_likeEdges 13 = .ok (.iconst 0, 1) := by decide +kernel
theorem dX7_likeEdges_14 : decode cX7_likeEdges 14 = .ok (.iastore, 1) := by decide +kernel
theorem dX7_likeEdges_15 : decode cX7_likeEdges 15 = .ok (.iinc 2 1, 3) := by decide +kernel
theorem dX7_likeEdges_18 : decode cX7_likeEdges 18 = .ok (.goto (-16), 3) := by decide +kernel
theorem dX7_likeEdges_21 : decode cX7_likeEdges 21 = .ok (.iconst 0, 1) := by decide +kernel
theorem dX7_likeEdges_22 : decode cX7_likeEdges 22 = .ok (.istore_n 2, 1) := by decide +kernel
theorem dX7_likeEdges_23 : decode cX7_likeEdges 23 = .ok (.iload_n 2, 1) := by decide +kernel
theorem dX7_likeEdges_24 : decode cX7_likeEdges 24 = .ok (.aload_n 0, 1) := by decide +kernel
theorem dX7_likeEdges_25 : decode cX7_likeEdges 25 = .ok (.getfield 60, 3) := by decide +kernel
theorem dX7_likeEdges_28 : decode cX7_likeEdges 28 = .ok (.if_icmp .ge 56, 3) := by decide +kernel
theorem dX7_likeEdges_31 : decode cX7_likeEdges 31 = .ok (.iload_n 1, 1) := by decide +kernel
theorem dX7_likeEdges_32 : decode cX7_likeEdges 32 = .ok (.ifCond .eq 11, 3) := by decide +kernel
theorem dX7_likeEdges_35 : decode cX7_likeEdges 35 = .ok (.aload_n 0, 1) := by decide +kernel
theorem dX7_likeEdges_36 : decode cX7_likeEdges 36 = .ok (.iload_n 2, 1) := by decide +kernel
theorem dX7_likeEdges_37 : decode cX7_likeEdges 37 = .ok (.invokevirtual 117, 3) := by decide +kernel
theorem dX7_likeEdges_40 : decode cX7_likeEdges 40 = .ok (.goto 9, 3) := by decide +kernel
theorem dX7_likeEdges_43 : decode cX7_likeEdges 43 = .ok (.aload_n 0, 1) := by decide +kernel
theorem dX7_likeEdges_44 : decode cX7_likeEdges 44 = .ok (.iload_n 2, 1) := by decide +kernel
theorem dX7_likeEdges_45 : decode cX7_likeEdges 45 = .ok (.iconst 0, 1) := by decide +kernel
theorem dX7_likeEdges_46 : decode cX7_likeEdges 46 = .ok (.invokevirtual 81, 3) := by decide +kernel
theorem dX7_likeEdges_49 : decode cX7_likeEdges 49 = .ok (.istore_n 3, 1) := by decide +kernel
theorem dX7_likeEdges_50 : decode cX7_likeEdges 50 = .ok (.aload_n 0, 1) := by decide +kernel
theorem dX7_likeEdges_51 : decode cX7_likeEdges 51 = .ok (.iload_n 2, 1) := by decide +kernel
theorem dX7_likeEdges_52 : decode cX7_likeEdges 52 = .ok (.invokevirtual 97, 3) := by decide +kernel
theorem dX7_likeEdges_55 : decode cX7_likeEdges 55 = .ok (.ifCond .eq 23, 3) := by decide +kernel
theorem dX7_likeEdges_58 : decode cX7_likeEdges 58 = .ok (.iload_n 3, 1) := by decide +kernel
theorem dX7_likeEdges_59 : decode cX7_likeEdges 59 = .ok (.ifCond .lt 19, 3) := by decide +kernel
theorem dX7_likeEdges_62 : decode cX7_likeEdges 62 = .ok (.iload_n 3, 1) := by decide +kernel
theorem dX7_likeEdges_63 : decode cX7_likeEdges 63 = .ok (.bipush 24, 2) := by decide +kernel
theorem dX7_likeEdges_65 : decode cX7_likeEdges 65 = .ok (.if_icmp .ge 13, 3) := by decide +kernel
theorem dX7_likeEdges_68 : decode cX7_likeEdges 68 = .ok (.aload_n 0, 1) := by decide +kernel
theorem dX7_likeEdges_69 : decode cX7_likeEdges 69 = .ok (.getfield 38, 3) := by decide +kernel
theorem dX7_likeEdges_72 : decode cX7_likeEdges 72 = .ok (.iload_n 3, 1) := by decide +kernel
theorem dX7_likeEdges_73 : decode cX7_likeEdges 73 = .ok (.dup2, 1) := by decide +kernel
theorem dX7_likeEdges_74 : decode cX7_likeEdges 74 = .ok (.iaload, 1) := by decide +kernel
theorem dX7_likeEdges_75 : decode cX7_likeEdges 75 = .ok (.iconst 1, 1) := by decide +kernel
theorem dX7_likeEdges_76 : decode cX7_likeEdges 76 = .ok (.iadd, 1) := by decide +kernel
theorem dX7_likeEdges_77 : decode cX7_likeEdges 77 = .ok (.iastore, 1) := by decide +kernel
theorem dX7_likeEdges_78 : decode cX7_likeEdges 78 = .ok (.iinc 2 1, 3) := by decide +kernel
theorem dX7_likeEdges_81 : decode cX7_likeEdges 81 = .ok (.goto (-58), 3) := by decide +kernel
theorem dX7_likeEdges_84 : decode cX7_likeEdges 84 = .ok (.iconst 0, 1) := by decide +kernel
theorem dX7_likeEdges_85 : decode cX7_likeEdges 85 = .ok (.istore_n 2, 1) := by decide +kernel
theorem dX7_likeEdges_86 : decode cX7_likeEdges 86 = .ok (.iconst 0, 1) := by decide +kernel
theorem dX7_likeEdges_87 : decode cX7_likeEdges 87 = .ok (.istore_n 3, 1) := by decide +kernel
theorem dX7_likeEdges_88 : decode cX7_likeEdges 88 = .ok (.iload_n 3, 1) := by decide +kernel
theorem dX7_likeEdges_89 : decode cX7_likeEdges 89 = .ok (.bipush 24, 2) := by decide +kernel
theorem dX7_likeEdges_91 : decode cX7_likeEdges 91 = .ok (.if_icmp .ge 25, 3) := by decide +kernel
theorem dX7_likeEdges_94 : decode cX7_likeEdges 94 = .ok (.iload_n 2, 1) := by decide +kernel
theorem dX7_likeEdges_95 : decode cX7_likeEdges 95 = .ok (.aload_n 0, 1) := by decide +kernel
theorem dX7_likeEdges_96 : decode cX7_likeEdges 96 = .ok (.getfield 38, 3) := by decide +kernel
theorem dX7_likeEdges_99 : decode cX7_likeEdges 99 = .ok (.iload_n 3, 1) := by decide +kernel
theorem dX7_likeEdges_100 : decode cX7_likeEdges 100 = .ok (.iaload, 1) := by decide +kernel
theorem dX7_likeEdges_101 : decode cX7_likeEdges 101 = .ok (.aload_n 0, 1) := by decide +kernel
theorem dX7_likeEdges_102 : decode cX7_likeEdges 102 = .ok (.getfield 38, 3) := by decide +kernel
theorem dX7_likeEdges_105 : decode cX7_likeEdges 105 = .ok (.iload_n 3, 1) := by decide +kernel
theorem dX7_likeEdges_106 : decode cX7_likeEdges 106 = .ok (.iaload, 1) := by decide +kernel
theorem dX7_likeEdges_107 : decode cX7_likeEdges 107 = .ok (.imul, 1) := by decide +kernel
theorem dX7_likeEdges_108 : decode cX7_likeEdges 108 = .ok (.iadd, 1) := by decide +kernel
theorem dX7_likeEdges_109 : decode cX7_likeEdges 109 = .ok (.istore_n 2, 1) := by decide +kernel
theorem dX7_likeEdges_110 : decode cX7_likeEdges 110 = .ok (.iinc 3 1, 3) := by decide +kernel
theorem dX7_likeEdges_113 : decode cX7_likeEdges 113 = .ok (.goto (-25), 3) := by decide +kernel
theorem dX7_likeEdges_116 : decode cX7_likeEdges 116 = .ok (.iload_n 2, 1) := by decide +kernel
theorem dX7_likeEdges_117 : decode cX7_likeEdges 117 = .ok (.ireturn, 1) := by decide +kernel
theorem dX8_init_0 : decode cX8_init 0 = .ok (.aload_n 0, 1) := by decide +kernel
theorem dX8_init_1 : decode cX8_init 1 = .ok (.invokespecial 5, 3) := by decide +kernel
theorem dX8_init_4 : decode cX8_init 4 = .ok (.aload_n 0, 1) := by decide +kernel
theorem dX8_init_5 : decode cX8_init 5 = .ok (.sipush 128, 3) := by decide +kernel
theorem dX8_init_8 : decode cX8_init 8 = .ok (.newarray .long, 2) := by decide +kernel
theorem dX8_init_10 : decode cX8_init 10 = .ok (.putfield 11, 3) := by decide +kernel
theorem dX8_init_13 : decode cX8_init 13 = .ok (.aload_n 0, 1) := by decide +kernel
theorem dX8_init_14 : decode cX8_init 14 = .ok (.bipush 6, 2) := by decide +kernel
theorem dX8_init_16 : decode cX8_init 16 = .ok (.newarray .int, 2) := by decide +kernel
theorem dX8_init_18 : decode cX8_init 18 = .ok (.putfield 15, 3) := by decide +kernel
theorem dX8_init_21 : decode cX8_init 21 = .ok (.aload_n 0, 1) := by decide +kernel
theorem dX8_init_22 : decode cX8_init 22 = .ok (.bipush 24, 2) := by decide +kernel
theorem dX8_init_24 : decode cX8_init 24 = .ok (.newarray .int, 2) := by decide +kernel
theorem dX8_init_26 : decode cX8_init 26 = .ok (.putfield 21, 3) := by decide +kernel
theorem dX8_init_29 : decode cX8_init 29 = .ok (.aload_n 0, 1) := by decide +kernel
theorem dX8_init_30 : decode cX8_init 30 = .ok (.bipush 24, 2) := by decide +kernel
theorem dX8_init_32 : decode cX8_init 32 = .ok (.newarray .int, 2) := by decide +kernel
theorem dX8_init_34 : decode cX8_init 34 = .ok (.putfield 24, 3) := by decide +kernel
theorem dX8_init_37 : decode cX8_init 37 = .ok (.aload_n 0, 1) := by decide +kernel
theorem dX8_init_38 : decode cX8_init 38 = .ok (.bipush 96, 2) := by decide +kernel
theorem dX8_init_40 : decode cX8_init 40 = .ok (.bipush 6, 2) := by decide +kernel
theorem dX8_init_42 : decode cX8_init 42 = .ok (.multianewarray 29 2, 4) := by decide +kernel
theorem dX8_init_46 : decode cX8_init 46 = .ok (.putfield 31, 3) := by decide +kernel
theorem dX8_init_49 : decode cX8_init 49 = .ok (.aload_n 0, 1) := by decide +kernel
theorem dX8_init_50 : decode cX8_init 50 = .ok (.bipush 96, 2) := by decide +kernel
theorem dX8_init_52 : decode cX8_init 52 = .ok (.newarray .int, 2) := by decide +kernel
theorem dX8_init_54 : decode cX8_init 54 = .ok (.putfield 34, 3) := by decide +kernel
theorem dX8_init_57 : decode cX8_init 57 = .ok (.aload_n 0, 1) := by decide +kernel
theorem dX8_init_58 : decode cX8_init 58 = .ok (.bipush 6, 2) := by decide +kernel
theorem dX8_init_60 : decode cX8_init 60 = .ok (.newarray .int, 2) := by decide +kernel
theorem dX8_init_62 : decode cX8_init 62 = .ok (.putfield 37, 3) := by decide +kernel
theorem dX8_init_65 : decode cX8_init 65 = .ok (.aload_n 0, 1) := by decide +kernel
theorem dX8_init_66 : decode cX8_init 66 = .ok (.bipush 6, 2) := by decide +kernel
theorem dX8_init_68 : decode cX8_init 68 = .ok (.newarray .int, 2) := by decide +kernel
theorem dX8_init_70 : decode cX8_init 70 = .ok (.putfield 40, 3) := by decide +kernel
theorem dX8_init_73 : decode cX8_init 73 = .ok (.aload_n 0, 1) := by decide +kernel
theorem dX8_init_74 : decode cX8_init 74 = .ok (.bipush 6, 2) := by decide +kernel
theorem dX8_init_76 : decode cX8_init 76 = .ok (.newarray .int, 2) := by decide +kernel
theorem dX8_init_78 : decode cX8_init 78 = .ok (.putfield 43, 3) := by decide +kernel
theorem dX8_init_81 : decode cX8_init 81 = .ok (.aload_n 0, 1) := by decide +kernel
theorem dX8_init_82 : decode cX8_init 82 = .ok (.aload_n 1, 1) := by decide +kernel
theorem dX8_init_83 : decode cX8_init 83 = .ok (.putfield 46, 3) := by decide +kernel
theorem dX8_init_86 : decode cX8_init 86 = .ok (.return_, 1) := by decide +kernel
theorem dX8_size_0 : decode cX8_size 0 = .ok (.aload_n 0, 1) := by decide +kernel
theorem dX8_size_1 : decode cX8_size 1 = .ok (.getfield 50, 3) := by decide +kernel
theorem dX8_size_4 : decode cX8_size 4 = .ok (.ireturn, 1) := by decide +kernel
theorem dX8_add_0 : decode cX8_add 0 = .ok (.iload_n 1, 1) := by decide +kernel
theorem dX8_add_1 : decode cX8_add 1 = .ok (.bipush 6, 2) := by decide +kernel
theorem dX8_add_3 : decode cX8_add 3 = .ok (.iload_n 2, 1) := by decide +kernel
theorem dX8_add_4 : decode cX8_add 4 = .ok (.invokestatic 54, 3) := by decide +kernel
theorem dX8_add_7 : decode cX8_add 7 = .ok (.ifCond .eq 15, 3) := by decide +kernel
theorem dX8_add_10 : decode cX8_add 10 = .ok (.aload_n 0, 1) := by decide +kernel
theorem dX8_add_11 : decode cX8_add 11 = .ok (.iload_n 1, 1) := by decide +kernel
theorem dX8_add_12 : decode cX8_add 12 = .ok (.iload_n 2, 1) := by decide +kernel
theorem dX8_add_13 : decode cX8_add 13 = .ok (.invokestatic 60, 3) := by decide +kernel
theorem dX8_add_16 : decode cX8_add 16 = .ok (.invokevirtual 64, 3) := by decide +kernel
theorem dX8_add_19 : decode cX8_add 19 = .ok (.ifCond .eq 5, 3) := by decide +kernel
theorem dX8_add_22 : decode cX8_add 22 = .ok (.iconst (-1), 1) := by decide +kernel
theorem dX8_add_23 : decode cX8_add 23 = .ok (.ireturn, 1) := by decide +kernel
theorem dX8_add_24 : decode cX8_add 24 = .ok (.aload_n 0, 1) := by decide +kernel
theorem dX8_add_25 : decode cX8_add 25 = .ok (.getfield 50, 3) := by decide +kernel
theorem dX8_add_28 : decode cX8_add 28 = .ok (.bipush 12, 2) := by decide +kernel
theorem dX8_add_30 : decode cX8_add 30 = .ok (.if_icmp .lt 6, 3) := by decide +kernel
theorem dX8_add_33 : decode cX8_add 33 = .ok (.bipush (-3), 2) := by decide +kernel
theorem dX8_add_35 : decode cX8_add 35 = .ok (.ireturn, 1) := by decide +kernel
theorem dX8_add_36 : decode cX8_add 36 = .ok (.iload_n 1, 1) := by decide +kernel
theorem dX8_add_37 : decode cX8_add 37 = .ok (.iload_n 2, 1) := by decide +kernel
theorem dX8_add_38 : decode cX8_add 38 = .ok (.invokestatic 60, 3) := by decide +kernel
theorem dX8_add_41 : decode cX8_add 41 = .ok (.istore_n 3, 1) := by decide +kernel
theorem dX8_add_42 : decode cX8_add 42 = .ok (.aload_n 0, 1) := by decide +kernel
theorem dX8_add_43 : decode cX8_add 43 = .ok (.getfield 11, 3) := by decide +kernel
theorem dX8_add_46 : decode cX8_add 46 = .ok (.iload_n 3, 1) := by decide +kernel
theorem dX8_add_47 : decode cX8_add 47 = .ok (.bipush 6, 2) := by decide +kernel
theorem dX8_add_49 : decode cX8_add 49 = .ok (.ishr, 1) := by decide +kernel
theorem dX8_add_50 : decode cX8_add 50 = .ok (.dup2, 1) := by decide +kernel
theorem dX8_add_51 : decode cX8_add 51 = .ok (.laload, 1) := by decide +kernel
theorem dX8_add_52 : decode cX8_add 52 = .ok (.lconst 1, 1) := by decide +kernel
theorem dX8_add_53 : decode cX8_add 53 = .ok (.iload_n 3, 1) := by decide +kernel
theorem dX8_add_54 : decode cX8_add 54 = .ok (.bipush 63, 2) := by decide +kernel
theorem dX8_add_56 : decode cX8_add 56 = .ok (.iand, 1) := by decide +kernel
theorem dX8_add_57 : decode cX8_add 57 = .ok (.lshl, 1) := by decide +kernel
theorem dX8_add_58 : decode cX8_add 58 = .ok (.lor, 1) := by decide +kernel
theorem dX8_add_59 : decode cX8_add 59 = .ok (.lastore, 1) := by decide +kernel
theorem dX8_add_60 : decode cX8_add 60 = .ok (.aload_n 0, 1) := by decide +kernel
theorem dX8_add_61 : decode cX8_add 61 = .ok (.dup, 1) := by decide +kernel
theorem dX8_add_62 : decode cX8_add 62 = .ok (.getfield 50, 3) := by decide +kernel
theorem dX8_add_65 : decode cX8_add 65 = .ok (.iconst 1, 1) := by decide +kernel
theorem dX8_add_66 : decode cX8_add 66 = .ok (.iadd, 1) := by decide +kernel
theorem dX8_add_67 : decode cX8_add 67 = .ok (.putfield 50, 3) := by decide +kernel
theorem dX8_add_70 : decode cX8_add 70 = .ok (.aload_n 0, 1) := by decide +kernel
theorem dX8_add_71 : decode cX8_add 71 = .ok (.getfield 50, 3) := by decide +kernel
theorem dX8_add_74 : decode cX8_add 74 = .ok (.iconst 1, 1) := by decide +kernel
theorem dX8_add_75 : decode cX8_add 75 = .ok (.isub, 1) := by decide +kernel
theorem dX8_add_76 : decode cX8_add 76 = .ok (.ireturn, 1) := by decide +kernel
theorem dX8_keyOf_0 : decode cX8_keyOf 0 = .ok (.iconst 1, 1) := by decide +kernel
theorem dX8_keyOf_1 : decode cX8_keyOf 1 = .ok (.iconst 2, 1) := by decide +kernel
theorem dX8_keyOf_2 : decode cX8_keyOf 2 = .ok (.iload_n 0, 1) := by decide +kernel
theorem dX8_keyOf_3 : decode cX8_keyOf 3 = .ok (.imul, 1) := by decide +kernel
theorem dX8_keyOf_4 : decode cX8_keyOf 4 = .ok (.ishl, 1) := by decide +kernel
theorem dX8_keyOf_5 : decode cX8_keyOf 5 = .ok (.iload_n 1, 1) := by decide +kernel
theorem dX8_keyOf_6 : decode cX8_keyOf 6 = .ok (.ior, 1) := by decide +kernel
theorem dX8_keyOf_7 : decode cX8_keyOf 7 = .ok (.ireturn, 1) := by decide +kernel
theorem dX8_isWord_0 : decode cX8_isWord 0 = .ok (.iload_n 1, 1) := by decide +kernel
theorem dX8_isWord_1 : decode cX8_isWord 1 = .ok (.ifCond .lt 35, 3) := by decide +kernel
theorem dX8_isWord_4 : decode cX8_isWord 4 = .ok (.iload_n 1, 1) := by decide +kernel
theorem dX8_isWord_5 : decode cX8_isWord 5 = .ok (.sipush 8192, 3) := by decide +kernel
theorem dX8_isWord_8 : decode cX8_isWord 8 = .ok (.if_icmp .ge 28, 3) := by decide +kernel
theorem dX8_isWord_11 : decode cX8_isWord 11 = .ok (.aload_n 0, 1) := by decide +kernel
theorem dX8_isWord_12 : decode cX8_isWord 12 = .ok (.getfield 11, 3) := by decide +kernel
theorem dX8_isWord_15 : decode cX8_isWord 15 = .ok (.iload_n 1, 1) := by decide +kernel
theorem dX8_isWord_16 : decode cX8_isWord 16 = .ok (.bipush 6, 2) := by decide +kernel
theorem dX8_isWord_18 : decode cX8_isWord 18 = .ok (.ishr, 1) := by decide +kernel
theorem dX8_isWord_19 : decode cX8_isWord 19 = .ok (.laload, 1) := by decide +kernel
theorem dX8_isWord_20 : decode cX8_isWord 20 = .ok (.iload_n 1, 1) := by decide +kernel
theorem dX8_isWord_21 : decode cX8_isWord 21 = .ok (.bipush 63, 2) := by decide +kernel
theorem dX8_isWord_23 : decode cX8_isWord 23 = .ok (.iand, 1) := by decide +kernel
theorem dX8_isWord_24 : decode cX8_isWord 24 = .ok (.lshr, 1) := by decide +kernel
theorem dX8_isWord_25 : decode cX8_isWord 25 = .ok (.lconst 1, 1) := by decide +kernel
theorem dX8_isWord_26 : decode cX8_isWord 26 = .ok (.land, 1) := by decide +kernel
theorem dX8_isWord_27 : decode cX8_isWord 27 = .ok (.lconst 1, 1) := by decide +kernel
theorem dX8_isWord_28 : decode cX8_isWord 28 = .ok (.lcmp, 1) := by decide +kernel
theorem dX8_isWord_29 : decode cX8_isWord 29 = .ok (.ifCond .ne 7, 3) := by decide +kernel
theorem dX8_isWord_32 : decode cX8_isWord 32 = .ok (.iconst 1, 1) := by decide +kernel
theorem dX8_isWord_33 : decode cX8_isWord 33 = .ok (.goto 4, 3) := by decide +kernel
theorem dX8_isWord_36 : decode cX8_isWord 36 = .ok (.iconst 0, 1) := by decide +kernel
theorem dX8_isWord_37 : decode cX8_isWord 37 = .ok (.ireturn, 1) := by decide +kernel
theorem dX8_signAt_0 : decode cX8_signAt 0 = .ok (.iload_n 1, 1) := by decide +kernel
theorem dX8_signAt_1 : decode cX8_signAt 1 = .ok (.ifCond .lt 9, 3) := by decide +kernel
theorem dX8_signAt_4 : decode cX8_signAt 4 = .ok (.iload_n 1, 1) := by decide +kernel
theorem dX8_signAt_5 : decode cX8_signAt 5 = .ok (.bipush 6, 2) := by decide +kernel
theorem dX8_signAt_7 : decode cX8_signAt 7 = .ok (.if_icmp .lt 5, 3) := by decide +kernel
theorem dX8_signAt_10 : decode cX8_signAt 10 = .ok (.iconst (-1), 1) := by decide +kernel
theorem dX8_signAt_11 : decode cX8_signAt 11 = .ok (.ireturn, 1) := by decide +kernel
theorem dX8_signAt_12 : decode cX8_signAt 12 = .ok (.aload_n 0, 1) := by decide +kernel
theorem dX8_signAt_13 : decode cX8_signAt 13 = .ok (.invokevirtual 68, 3) := by decide +kernel
theorem dX8_signAt_16 : decode cX8_signAt 16 = .ok (.iload_n 1, 1) := by decide +kernel
theorem dX8_signAt_17 : decode cX8_signAt 17 = .ok (.aload_n 0, 1) := by decide +kernel
theorem dX8_signAt_18 : decode cX8_signAt 18 = .ok (.getfield 71, 3) := by decide +kernel
theorem dX8_signAt_21 : decode cX8_signAt 21 = .ok (.if_icmp .ge 12, 3) := by decide +kernel
theorem dX8_signAt_24 : decode cX8_signAt 24 = .ok (.aload_n 0, 1) := by decide +kernel
theorem dX8_signAt_25 : decode cX8_signAt 25 = .ok (.getfield 15, 3) := by decide +kernel
theorem dX8_signAt_28 : decode cX8_signAt 28 = .ok (.iload_n 1, 1) := by decide +kernel
theorem dX8_signAt_29 : decode cX8_signAt 29 = .ok (.iaload, 1) := by decide +kernel
theorem dX8_signAt_30 : decode cX8_signAt 30 = .ok (.goto 5, 3) := by decide +kernel
theorem dX8_signAt_33 : decode cX8_signAt 33 = .ok (.bipush (-4), 2) := by decide +kernel
theorem dX8_signAt_35 : decode cX8_signAt 35 = .ok (.ireturn, 1) := by decide +kernel
theorem dX8_readWith_0 : decode cX8_readWith 0 = .ok (.aload_n 0, 1) := by decide +kernel
theorem dX8_readWith_1 : decode cX8_readWith 1 = .ok (.invokevirtual 68, 3) := by decide +kernel
theorem dX8_readWith_4 : decode cX8_readWith 4 = .ok (.aload_n 0, 1) := by decide +kernel
theorem dX8_readWith_5 : decode cX8_readWith 5 = .ok (.getfield 46, 3) := by decide +kernel
theorem dX8_readWith_8 : decode cX8_readWith 8 = .ok (.iload_n 1, 1) := by decide +kernel
theorem dX8_readWith_9 : decode cX8_readWith 9 = .ok (.invokevirtual 74, 3) := by decide +kernel
theorem dX8_readWith_12 : decode cX8_readWith 12 = .ok (.ifCond .eq 15, 3) := by decide +kernel
theorem dX8_readWith_15 : decode cX8_readWith 15 = .ok (.iload_n 2, 1) := by decide +kernel
theorem dX8_readWith_16 : decode cX8_readWith 16 = .ok (.ifCond .lt 11, 3) := by decide +kernel
theorem dX8_readWith_19 : decode cX8_readWith 19 = .ok (.iload_n 2, 1) := by decide +kernel
theorem dX8_readWith_20 : decode cX8_readWith 20 = .ok (.aload_n 0, 1) := by decide +kernel
theorem dX8_readWith_21 : decode cX8_readWith 21 = .ok (.invokevirtual 77, 3) := by decide +kernel
theorem dX8_readWith_24 : decode cX8_readWith 24 = .ok (.if_icmp .lt 5, 3) := by decide +kernel
theorem dX8_readWith_27 : decode cX8_readWith 27 = .ok (.iconst (-1), 1) := by decide +kernel
theorem dX8_readWith_28 : decode cX8_readWith 28 = .ok (.ireturn, 1) := by decide +kernel
theorem dX8_readWith_29 : decode cX8_readWith 29 = .ok (.aload_n 0, 1) := by decide +kernel
theorem dX8_readWith_30 : decode cX8_readWith 30 = .ok (.iload_n 1, 1) := by decide +kernel
theorem dX8_readWith_31 : decode cX8_readWith 31 = .ok (.invokevirtual 81, 3) := by decide +kernel
theorem dX8_readWith_34 : decode cX8_readWith 34 = .ok (.aload_n 0, 1) := by decide +kernel
theorem dX8_readWith_35 : decode cX8_readWith 35 = .ok (.iload_n 2, 1) := by decide +kernel
theorem dX8_readWith_36 : decode cX8_readWith 36 = .ok (.invokevirtual 85, 3) := by decide +kernel
theorem dX8_readWith_39 : decode cX8_readWith 39 = .ok (.aload_n 0, 1) := by decide +kernel
theorem dX8_readWith_40 : decode cX8_readWith 40 = .ok (.invokevirtual 88, 3) := by decide +kernel
theorem dX8_readWith_43 : decode cX8_readWith 43 = .ok (.ireturn, 1) := by decide +kernel
theorem dX8_tellBest_0 : decode cX8_tellBest 0 = .ok (.aload_n 0, 1) := by decide +kernel
theorem dX8_tellBest_1 : decode cX8_tellBest 1 = .ok (.getfield 46, 3) := by decide +kernel
theorem dX8_tellBest_4 : decode cX8_tellBest 4 = .ok (.iload_n 1, 1) := by decide +kernel
theorem dX8_tellBest_5 : decode cX8_tellBest 5 = .ok (.invokevirtual 74, 3) := by decide +kernel
theorem dX8_tellBest_8 : decode cX8_tellBest 8 = .ok (.ifCond .eq 12, 3) := by decide +kernel
theorem dX8_tellBest_11 : decode cX8_tellBest 11 = .ok (.iload_n 2, 1) := by decide +kernel
theorem dX8_tellBest_12 : decode cX8_tellBest 12 = .ok (.ifCond .lt 8, 3) := by decide +kernel
theorem dX8_tellBest_15 : decode cX8_tellBest 15 = .ok (.iload_n 2, 1) := by decide +kernel
theorem dX8_tellBest_16 : decode cX8_tellBest 16 = .ok (.iconst 2, 1) := by decide +kernel
theorem dX8_tellBest_17 : decode cX8_tellBest 17 = .ok (.if_icmp .le 5, 3) := by decide +kernel
theorem dX8_tellBest_20 : decode cX8_tellBest 20 = .ok (.iconst (-1), 1) := by decide +kernel
theorem dX8_tellBest_21 : decode cX8_tellBest 21 = .ok (.ireturn, 1) := by decide +kernel
theorem dX8_tellBest_22 : decode cX8_tellBest 22 = .ok (.aload_n 0, 1) := by decide +kernel
theorem dX8_tellBest_23 : decode cX8_tellBest 23 = .ok (.invokevirtual 68, 3) := by decide +kernel
theorem dX8_tellBest_26 : decode cX8_tellBest 26 = .ok (.aload_n 0, 1) := by decide +kernel
theorem dX8_tellBest_27 : decode cX8_tellBest 27 = .ok (.iload_n 1, 1) := by decide +kernel
theorem dX8_tellBest_28 : decode cX8_tellBest 28 = .ok (.invokevirtual 81, 3) := by decide +kernel
theorem dX8_tellBest_31 : decode cX8_tellBest 31 = .ok (.aload_n 0, 1) := by decide +kernel
theorem dX8_tellBest_32 : decode cX8_tellBest 32 = .ok (.invokevirtual 91, 3) := by decide +kernel
theorem dX8_tellBest_35 : decode cX8_tellBest 35 = .ok (.iload_n 2, 1) := by decide +kernel
theorem dX8_tellBest_36 : decode cX8_tellBest 36 = .ok (.ifCond .ne 8, 3) := by decide +kernel
theorem dX8_tellBest_39 : decode cX8_tellBest 39 = .ok (.aload_n 0, 1) := by decide +kernel
theorem dX8_tellBest_40 : decode cX8_tellBest 40 = .ok (.invokevirtual 94, 3) := by decide +kernel
theorem dX8_tellBest_43 : decode cX8_tellBest 43 = .ok (.ireturn, 1) := by decide +kernel
theorem dX8_tellBest_44 : decode cX8_tellBest 44 = .ok (.iload_n 2, 1) := by decide +kernel
theorem dX8_tellBest_45 : decode cX8_tellBest 45 = .ok (.iconst 1, 1) := by decide +kernel
theorem dX8_tellBest_46 : decode cX8_tellBest 46 = .ok (.if_icmp .ne 10, 3) := by decide +kernel
theorem dX8_tellBest_49 : decode cX8_tellBest 49 = .ok (.aload_n 0, 1) := by decide +kernel
theorem dX8_tellBest_50 : decode cX8_tellBest 50 = .ok (.getfield 97, 3) := by decide +kernel
theorem dX8_tellBest_53 : decode cX8_tellBest 53 = .ok (.goto 7, 3) := by decide +kernel
theorem dX8_tellBest_56 : decode cX8_tellBest 56 = .ok (.aload_n 0, 1) := by decide +kernel
theorem dX8_tellBest_57 : decode cX8_tellBest 57 = .ok (.getfield 100, 3) := by decide +kernel
theorem dX8_tellBest_60 : decode cX8_tellBest 60 = .ok (.ireturn, 1) := by decide +kernel
theorem dX8_holdAgainst_0 : decode cX8_holdAgainst 0 = .ok (.aload_n 0, 1) := by decide +kernel
theorem dX8_holdAgainst_1 : decode cX8_holdAgainst 1 = .ok (.getfield 46, 3) := by decide +kernel
theorem dX8_holdAgainst_4 : decode cX8_holdAgainst 4 = .ok (.iload_n 1, 1) := by decide +kernel
theorem dX8_holdAgainst_5 : decode cX8_holdAgainst 5 = .ok (.invokevirtual 74, 3) := by decide +kernel
theorem dX8_holdAgainst_8 : decode cX8_holdAgainst 8 = .ok (.ifCond .eq 20, 3) := by decide +kernel
theorem dX8_holdAgainst_11 : decode cX8_holdAgainst 11 = .ok (.aload_n 0, 1) := by decide +kernel
theorem dX8_holdAgainst_12 : decode cX8_holdAgainst 12 = .ok (.getfield 46, 3) := by decide +kernel
theorem dX8_holdAgainst_15 : decode cX8_holdAgainst 15 = .ok (.iload_n 2, 1) := by decide +kernel
theorem dX8_holdAgainst_16 : decode cX8_holdAgainst 16 = .ok (.invokevirtual 74, 3) := by decide +kernel
theorem dX8_holdAgainst_19 : decode cX8_holdAgainst 19 = .ok (.ifCond .eq 9, 3) := by decide +kernel
theorem dX8_holdAgainst_22 : decode cX8_holdAgainst 22 = .ok (.iload_n 1, 1) := by decide +kernel
theorem dX8_holdAgainst_23 : decode cX8_holdAgainst 23 = .ok (.iload_n 2, 1) := by decide +kernel
theorem dX8_holdAgainst_24 : decode cX8_holdAgainst 24 = .ok (.iand, 1) := by decide +kernel
theorem dX8_holdAgainst_25 : decode cX8_holdAgainst 25 = .ok (.ifCond .eq 5, 3) := by decide +kernel
theorem dX8_holdAgainst_28 : decode cX8_holdAgainst 28 = .ok (.iconst (-1), 1) := by decide +kernel
theorem dX8_holdAgainst_29 : decode cX8_holdAgainst 29 = .ok (.ireturn, 1) := by decide +kernel
theorem dX8_holdAgainst_30 : decode cX8_holdAgainst 30 = .ok (.iload_n 3, 1) := by decide +kernel
theorem dX8_holdAgainst_31 : decode cX8_holdAgainst 31 = .ok (.ifCond .lt 8, 3) := by decide +kernel
theorem dX8_holdAgainst_34 : decode cX8_holdAgainst 34 = .ok (.iload_n 3, 1) := by decide +kernel
theorem dX8_holdAgainst_35 : decode cX8_holdAgainst 35 = .ok (.iconst 2, 1) := by decide +kernel
theorem dX8_holdAgainst_36 : decode cX8_holdAgainst 36 = .ok (.if_icmp .le 5, 3) := by decide +kernel
theorem dX8_holdAgainst_39 : decode cX8_holdAgainst 39 = .ok (.iconst (-1), 1) := by decide +kernel
theorem dX8_holdAgainst_40 : decode cX8_holdAgainst 40 = .ok (.ireturn, 1) := by decide +kernel
theorem dX8_holdAgainst_41 : decode cX8_holdAgainst 41 = .ok (.aload_n 0, 1) := by decide +kernel
theorem dX8_holdAgainst_42 : decode cX8_holdAgainst 42 = .ok (.invokevirtual 68, 3) := by decide +kernel
theorem dX8_holdAgainst_45 : decode cX8_holdAgainst 45 = .ok (.aload_n 0, 1) := by decide +kernel
theorem dX8_holdAgainst_46 : decode cX8_holdAgainst 46 = .ok (.iload_n 1, 1) := by decide +kernel
theorem dX8_holdAgainst_47 : decode cX8_holdAgainst 47 = .ok (.invokevirtual 81, 3) := by decide +kernel
theorem dX8_holdAgainst_50 : decode cX8_holdAgainst 50 = .ok (.aload_n 0, 1) := by decide +kernel
theorem dX8_holdAgainst_51 : decode cX8_holdAgainst 51 = .ok (.invokevirtual 91, 3) := by decide +kernel
theorem dX8_holdAgainst_54 : decode cX8_holdAgainst 54 = .ok (.aload_n 0, 1) := by decide +kernel
theorem dX8_holdAgainst_55 : decode cX8_holdAgainst 55 = .ok (.iload_n 2, 1) := by decide +kernel
theorem dX8_holdAgainst_56 : decode cX8_holdAgainst 56 = .ok (.invokevirtual 81, 3) := by decide +kernel
theorem dX8_holdAgainst_59 : decode cX8_holdAgainst 59 = .ok (.iconst 0, 1) := by decide +kernel
theorem dX8_holdAgainst_60 : decode cX8_holdAgainst 60 = .ok (.istore 4, 2) := by decide +kernel
theorem dX8_holdAgainst_62 : decode cX8_holdAgainst 62 = .ok (.iload 4, 2) := by decide +kernel
theorem dX8_holdAgainst_64 : decode cX8_holdAgainst 64 = .ok (.aload_n 0, 1) := by decide +kernel
theorem dX8_holdAgainst_65 : decode cX8_holdAgainst 65 = .ok (.getfield 71, 3) := by decide +kernel
theorem dX8_holdAgainst_68 : decode cX8_holdAgainst 68 = .ok (.if_icmp .ge 23, 3) := by decide +kernel
theorem dX8_holdAgainst_71 : decode cX8_holdAgainst 71 = .ok (.aload_n 0, 1) := by decide +kernel
theorem dX8_holdAgainst_72 : decode cX8_holdAgainst 72 = .ok (.getfield 37, 3) := by decide +kernel
theorem dX8_holdAgainst_75 : decode cX8_holdAgainst 75 = .ok (.iload 4, 2) := by decide +kernel
theorem dX8_holdAgainst_77 : decode cX8_holdAgainst 77 = .ok (.aload_n 0, 1) := by decide +kernel
theorem dX8_holdAgainst_78 : decode cX8_holdAgainst 78 = .ok (.getfield 40, 3) := by decide +kernel
theorem dX8_holdAgainst_81 : decode cX8_holdAgainst 81 = .ok (.iload 4, 2) := by decide +kernel
theorem dX8_holdAgainst_83 : decode cX8_holdAgainst 83 = .ok (.iaload, 1) := by decide +kernel
theorem dX8_holdAgainst_84 : decode cX8_holdAgainst 84 = .ok (.iastore, 1) := by decide +kernel
theorem dX8_holdAgainst_85 : decode cX8_holdAgainst 85 = .ok (.iinc 4 1, 3) := by decide +kernel
theorem dX8_holdAgainst_88 : decode cX8_holdAgainst 88 = .ok (.goto (-26), 3) := by decide +kernel
theorem dX8_holdAgainst_91 : decode cX8_holdAgainst 91 = .ok (.aload_n 0, 1) := by decide +kernel
theorem dX8_holdAgainst_92 : decode cX8_holdAgainst 92 = .ok (.invokevirtual 88, 3) := by decide +kernel
theorem dX8_holdAgainst_95 : decode cX8_holdAgainst 95 = .ok (.istore 4, 2) := by decide +kernel
theorem dX8_holdAgainst_97 : decode cX8_holdAgainst 97 = .ok (.iload_n 3, 1) := by decide +kernel
theorem dX8_holdAgainst_98 : decode cX8_holdAgainst 98 = .ok (.ifCond .ne 6, 3) := by decide +kernel
theorem dX8_holdAgainst_101 : decode cX8_holdAgainst 101 = .ok (.iload 4, 2) := by decide +kernel
theorem dX8_holdAgainst_103 : decode cX8_holdAgainst 103 = .ok (.ireturn, 1) := by decide +kernel
theorem dX8_holdAgainst_104 : decode cX8_holdAgainst 104 = .ok (.aload_n 0, 1) := by decide +kernel
theorem dX8_holdAgainst_105 : decode cX8_holdAgainst 105 = .ok (.iload 4, 2) := by decide +kernel
theorem dX8_holdAgainst_107 : decode cX8_holdAgainst 107 = .ok (.iload_n 3, 1) := by decide +kernel
theorem dX8_holdAgainst_108 : decode cX8_holdAgainst 108 = .ok (.invokevirtual 103, 3) := by decide +kernel
theorem dX8_holdAgainst_111 : decode cX8_holdAgainst 111 = .ok (.ireturn, 1) := by decide +kernel
theorem dX8_tables_0 : decode cX8_tables 0 = .ok (.iconst 1, 1) := by decide +kernel
theorem dX8_tables_1 : decode cX8_tables 1 = .ok (.iconst 2, 1) := by decide +kernel
theorem dX8_tables_2 : decode cX8_tables 2 = .ok (.aload_n 0, 1) := by decide +kernel
theorem dX8_tables_3 : decode cX8_tables 3 = .ok (.getfield 71, 3) := by decide +kernel
theorem dX8_tables_6 : decode cX8_tables 6 = .ok (.imul, 1) := by decide +kernel
theorem dX8_tables_7 : decode cX8_tables 7 = .ok (.ishl, 1) := by decide +kernel
theorem dX8_tables_8 : decode cX8_tables 8 = .ok (.ireturn, 1) := by decide +kernel
theorem dX8_rank_0 : decode cX8_rank 0 = .ok (.aload_n 0, 1) := by decide +kernel
theorem dX8_rank_1 : decode cX8_rank 1 = .ok (.iconst 0, 1) := by decide +kernel
theorem dX8_rank_2 : decode cX8_rank 2 = .ok (.putfield 71, 3) := by decide +kernel
theorem dX8_rank_5 : decode cX8_rank 5 = .ok (.iconst 0, 1) := by decide +kernel
theorem dX8_rank_6 : decode cX8_rank 6 = .ok (.istore_n 1, 1) := by decide +kernel
theorem dX8_rank_7 : decode cX8_rank 7 = .ok (.iload_n 1, 1) := by decide +kernel
theorem dX8_rank_8 : decode cX8_rank 8 = .ok (.bipush 24, 2) := by decide +kernel
theorem dX8_rank_10 : decode cX8_rank 10 = .ok (.if_icmp .ge 31, 3) := by decide +kernel
theorem dX8_rank_13 : decode cX8_rank 13 = .ok (.aload_n 0, 1) := by decide +kernel
theorem dX8_rank_14 : decode cX8_rank 14 = .ok (.getfield 24, 3) := by decide +kernel
theorem dX8_rank_17 : decode cX8_rank 17 = .ok (.iload_n 1, 1) := by decide +kernel
theorem dX8_rank_18 : decode cX8_rank 18 = .ok (.bipush (-4), 2) := by decide +kernel
theorem dX8_rank_20 : decode cX8_rank 20 = .ok (.iastore, 1) := by decide +kernel
theorem dX8_rank_21 : decode cX8_rank 21 = .ok (.aload_n 0, 1) := by decide +kernel
theorem dX8_rank_22 : decode cX8_rank 22 = .ok (.getfield 21, 3) := by decide +kernel
theorem dX8_rank_25 : decode cX8_rank 25 = .ok (.iload_n 1, 1) := by decide +kernel
theorem dX8_rank_26 : decode cX8_rank 26 = .ok (.aload_n 0, 1) := by decide +kernel
theorem dX8_rank_27 : decode cX8_rank 27 = .ok (.getfield 46, 3) := by decide +kernel
theorem dX8_rank_30 : decode cX8_rank 30 = .ok (.iload_n 1, 1) := by decide +kernel
theorem dX8_rank_31 : decode cX8_rank 31 = .ok (.invokevirtual 106, 3) := by decide +kernel
theorem dX8_rank_34 : decode cX8_rank 34 = .ok (.iastore, 1) := by decide +kernel
theorem dX8_rank_35 : decode cX8_rank 35 = .ok (.iinc 1 1, 3) := by decide +kernel
theorem dX8_rank_38 : decode cX8_rank 38 = .ok (.goto (-31), 3) := by decide +kernel
theorem dX8_rank_41 : decode cX8_rank 41 = .ok (.iconst 0, 1) := by decide +kernel
theorem dX8_rank_42 : decode cX8_rank 42 = .ok (.istore_n 1, 1) := by decide +kernel
theorem dX8_rank_43 : decode cX8_rank 43 = .ok (.iload_n 1, 1) := by decide +kernel
theorem dX8_rank_44 : decode cX8_rank 44 = .ok (.bipush 6, 2) := by decide +kernel
theorem dX8_rank_46 : decode cX8_rank 46 = .ok (.if_icmp .ge 49, 3) := by decide +kernel
theorem dX8_rank_49 : decode cX8_rank 49 = .ok (.aload_n 0, 1) := by decide +kernel
theorem dX8_rank_50 : decode cX8_rank 50 = .ok (.invokevirtual 110, 3) := by decide +kernel
theorem dX8_rank_53 : decode cX8_rank 53 = .ok (.istore_n 2, 1) := by decide +kernel
theorem dX8_rank_54 : decode cX8_rank 54 = .ok (.iload_n 2, 1) := by decide +kernel
theorem dX8_rank_55 : decode cX8_rank 55 = .ok (.ifCond .lt 9, 3) := by decide +kernel
theorem dX8_rank_58 : decode cX8_rank 58 = .ok (.iload_n 2, 1) := by decide +kernel
theorem dX8_rank_59 : decode cX8_rank 59 = .ok (.bipush 24, 2) := by decide +kernel
theorem dX8_rank_61 : decode cX8_rank 61 = .ok (.if_icmp .lt 4, 3) := by decide +kernel
theorem dX8_rank_64 : decode cX8_rank 64 = .ok (.return_, 1) := by decide +kernel
theorem dX8_rank_65 : decode cX8_rank 65 = .ok (.aload_n 0, 1) := by decide +kernel
theorem dX8_rank_66 : decode cX8_rank 66 = .ok (.getfield 24, 3) := by decide +kernel
theorem dX8_rank_69 : decode cX8_rank 69 = .ok (.iload_n 2, 1) := by decide +kernel
theorem dX8_rank_70 : decode cX8_rank 70 = .ok (.iload_n 1, 1) := by decide +kernel
theorem dX8_rank_71 : decode cX8_rank 71 = .ok (.iastore, 1) := by decide +kernel
theorem dX8_rank_72 : decode cX8_rank 72 = .ok (.aload_n 0, 1) := by decide +kernel
theorem dX8_rank_73 : decode cX8_rank 73 = .ok (.getfield 15, 3) := by decide +kernel
theorem dX8_rank_76 : decode cX8_rank 76 = .ok (.iload_n 1, 1) := by decide +kernel
theorem dX8_rank_77 : decode cX8_rank 77 = .ok (.iload_n 2, 1) := by decide +kernel
theorem dX8_rank_78 : decode cX8_rank 78 = .ok (.iastore, 1) := by decide +kernel
theorem dX8_rank_79 : decode cX8_rank 79 = .ok (.aload_n 0, 1) := by decide +kernel
theorem dX8_rank_80 : decode cX8_rank 80 = .ok (.dup, 1) := by decide +kernel
theorem dX8_rank_81 : decode cX8_rank 81 = .ok (.getfield 71, 3) := by decide +kernel
theorem dX8_rank_84 : decode cX8_rank 84 = .ok (.iconst 1, 1) := by decide +kernel
theorem dX8_rank_85 : decode cX8_rank 85 = .ok (.iadd, 1) := by decide +kernel
theorem dX8_rank_86 : decode cX8_rank 86 = .ok (.putfield 71, 3) := by decide +kernel
theorem dX8_rank_89 : decode cX8_rank 89 = .ok (.iinc 1 1, 3) := by decide +kernel
theorem dX8_rank_92 : decode cX8_rank 92 = .ok (.goto (-49), 3) := by decide +kernel
theorem dX8_rank_95 : decode cX8_rank 95 = .ok (.return_, 1) := by decide +kernel
theorem dX8_mostFrequentLeft_0 : decode cX8_mostFrequentLeft 0 = .ok (.bipush (-4), 2) := by decide +kernel
theorem dX8_mostFrequentLeft_2 : decode cX8_mostFrequentLeft 2 = .ok (.istore_n 1, 1) := by decide +kernel
theorem dX8_mostFrequentLeft_3 : decode cX8_mostFrequentLeft 3 = .ok (.iconst 0, 1) := by decide +kernel
theorem dX8_mostFrequentLeft_4 : decode cX8_mostFrequentLeft 4 = .ok (.istore_n 2, 1) := by decide +kernel
theorem dX8_mostFrequentLeft_5 : decode cX8_mostFrequentLeft 5 = .ok (.iconst 0, 1) := by decide +kernel
theorem dX8_mostFrequentLeft_6 : decode cX8_mostFrequentLeft 6 = .ok (.istore_n 3, 1) := by decide +kernel
theorem dX8_mostFrequentLeft_7 : decode cX8_mostFrequentLeft 7 = .ok (.iload_n 3, 1) := by decide +kernel
theorem dX8_mostFrequentLeft_8 : decode cX8_mostFrequentLeft 8 = .ok (.bipush 24, 2) := by decide +kernel
theorem dX8_mostFrequentLeft_10 : decode cX8_mostFrequentLeft 10 = .ok (.if_icmp .ge 42, 3) := by decide +kernel
theorem dX8_mostFrequentLeft_13 : decode cX8_mostFrequentLeft 13 = .ok (.aload_n 0, 1) := by decide +kernel
theorem dX8_mostFrequentLeft_14 : decode cX8_mostFrequentLeft 14 = .ok (.getfield 24, 3) := by decide +kernel
theorem dX8_mostFrequentLeft_17 : decode cX8_mostFrequentLeft 17 = .ok (.iload_n 3, 1) := by decide +kernel
theorem dX8_mostFrequentLeft_18 : decode cX8_mostFrequentLeft 18 = .ok (.iaload, 1) := by decide +kernel
theorem dX8_mostFrequentLeft_19 : decode cX8_mostFrequentLeft 19 = .ok (.bipush (-4), 2) := by decide +kernel
theorem dX8_mostFrequentLeft_21 : decode cX8_mostFrequentLeft 21 = .ok (.if_icmp .ne 25, 3) := by decide +kernel
theorem dX8_mostFrequentLeft_24 : decode cX8_mostFrequentLeft 24 = .ok (.aload_n 0, 1) := by decide +kernel
theorem dX8_mostFrequentLeft_25 : decode cX8_mostFrequentLeft 25 = .ok (.getfield 21, 3) := by decide +kernel
theorem dX8_mostFrequentLeft_28 : decode cX8_mostFrequentLeft 28 = .ok (.iload_n 3, 1) := by decide +kernel
theorem dX8_mostFrequentLeft_29 : decode cX8_mostFrequentLeft 29 = .ok (.iaload, 1) := by decide +kernel
theorem dX8_mostFrequentLeft_30 : decode cX8_mostFrequentLeft 30 = .ok (.iload_n 2, 1) := by decide +kernel
theorem dX8_mostFrequentLeft_31 : decode cX8_mostFrequentLeft 31 = .ok (.if_icmp .gt 6, 3) := by decide +kernel
theorem dX8_mostFrequentLeft_34 : decode cX8_mostFrequentLeft 34 = .ok (.goto 12, 3) := by decide +kernel
theorem dX8_mostFrequentLeft_37 : decode cX8_mostFrequentLeft 37 = .ok (.aload_n 0, 1) := by decide +kernel
theorem dX8_mostFrequentLeft_38 : decode cX8_mostFrequentLeft 38 = .ok (.getfield 21, 3) := by decide +kernel
theorem dX8_mostFrequentLeft_41 : decode cX8_mostFrequentLeft 41 = .ok (.iload_n 3, 1) := by decide +kernel
theorem dX8_mostFrequentLeft_42 : decode cX8_mostFrequentLeft 42 = .ok (.iaload, 1) := by decide +kernel
theorem dX8_mostFrequentLeft_43 : decode cX8_mostFrequentLeft 43 = .ok (.istore_n 2, 1) := by decide +kernel
theorem dX8_mostFrequentLeft_44 : decode cX8_mostFrequentLeft 44 = .ok (.iload_n 3, 1) := by decide +kernel
theorem dX8_mostFrequentLeft_45 : decode cX8_mostFrequentLeft 45 = .ok (.istore_n 1, 1) := by decide +kernel
theorem dX8_mostFrequentLeft_46 : decode cX8_mostFrequentLeft 46 = .ok (.iinc 3 1, 3) := by decide +kernel
theorem dX8_mostFrequentLeft_49 : decode cX8_mostFrequentLeft 49 = .ok (.goto (-42), 3) := by decide +kernel
theorem dX8_mostFrequentLeft_52 : decode cX8_mostFrequentLeft 52 = .ok (.iload_n 1, 1) := by decide +kernel
theorem dX8_mostFrequentLeft_53 : decode cX8_mostFrequentLeft 53 = .ok (.ireturn, 1) := by decide +kernel
theorem dX8_collect_0 : decode cX8_collect 0 = .ok (.aload_n 0, 1) := by decide +kernel
theorem dX8_collect_1 : decode cX8_collect 1 = .ok (.iconst 0, 1) := by decide +kernel
theorem dX8_collect_2 : decode cX8_collect 2 = .ok (.putfield 113, 3) := by decide +kernel
theorem dX8_collect_5 : decode cX8_collect 5 = .ok (.iconst 0, 1) := by decide +kernel
theorem dX8_collect_6 : decode cX8_collect 6 = .ok (.istore_n 2, 1) := by decide +kernel
theorem dX8_collect_7 : decode cX8_collect 7 = .ok (.iload_n 2, 1) := by decide +kernel
theorem dX8_collect_8 : decode cX8_collect 8 = .ok (.aload_n 0, 1) := by decide +kernel
theorem dX8_collect_9 : decode cX8_collect 9 = .ok (.getfield 46, 3) := by decide +kernel
theorem dX8_collect_12 : decode cX8_collect 12 = .ok (.invokevirtual 116, 3) := by decide +kernel
theorem dX8_collect_15 : decode cX8_collect 15 = .ok (.if_icmp .ge 30, 3) := by decide +kernel
theorem dX8_collect_18 : decode cX8_collect 18 = .ok (.iload_n 1, 1) := by decide +kernel
theorem dX8_collect_19 : decode cX8_collect 19 = .ok (.aload_n 0, 1) := by decide +kernel
theorem dX8_collect_20 : decode cX8_collect 20 = .ok (.getfield 46, 3) := by decide +kernel
theorem dX8_collect_23 : decode cX8_collect 23 = .ok (.iload_n 2, 1) := by decide +kernel
theorem dX8_collect_24 : decode cX8_collect 24 = .ok (.invokevirtual 118, 3) := by decide +kernel
theorem dX8_collect_27 : decode cX8_collect 27 = .ok (.ishr, 1) := by decide +kernel
theorem dX8_collect_28 : decode cX8_collect 28 = .ok (.iconst 1, 1) := by decide +kernel
theorem dX8_collect_29 : decode cX8_collect 29 = .ok (.iand, 1) := by decide +kernel
theorem dX8_collect_30 : decode cX8_collect 30 = .ok (.iconst 1, 1) := by decide +kernel
theorem dX8_collect_31 : decode cX8_collect 31 = .ok (.if_icmp .ne 8, 3) := by decide +kernel
theorem dX8_collect_34 : decode cX8_collect 34 = .ok (.aload_n 0, 1) := by decide +kernel
theorem dX8_collect_35 : decode cX8_collect 35 = .ok (.iload_n 2, 1) := by decide +kernel
theorem dX8_collect_36 : decode cX8_collect 36 = .ok (.invokevirtual 121, 3) := by decide +kernel
theorem dX8_collect_39 : decode cX8_collect 39 = .ok (.iinc 2 1, 3) := by decide +kernel
theorem dX8_collect_42 : decode cX8_collect 42 = .ok (.goto (-35), 3) := by decide +kernel
theorem dX8_collect_45 : decode cX8_collect 45 = .ok (.return_, 1) := by decide +kernel
theorem dX8_collectWord_0 : decode cX8_collectWord 0 = .ok (.aload_n 0, 1) := by decide +kernel
theorem dX8_collectWord_1 : decode cX8_collectWord 1 = .ok (.getfield 46, 3) := by decide +kernel
theorem dX8_collectWord_4 : decode cX8_collectWord 4 = .ok (.iload_n 1, 1) := by decide +kernel
theorem dX8_collectWord_5 : decode cX8_collectWord 5 = .ok (.invokevirtual 124, 3) := by decide +kernel
theorem dX8_collectWord_8 : decode cX8_collectWord 8 = .ok (.istore_n 2, 1) := by decide +kernel
theorem dX8_collectWord_9 : decode cX8_collectWord 9 = .ok (.iload_n 2, 1) := by decide +kernel
theorem dX8_collectWord_10 : decode cX8_collectWord 10 = .ok (.bipush 6, 2) := by decide +kernel
theorem dX8_collectWord_12 : decode cX8_collectWord 12 = .ok (.if_icmp .gt 12, 3) := by decide +kernel
theorem dX8_collectWord_15 : decode cX8_collectWord 15 = .ok (.aload_n 0, 1) := by decide +kernel
theorem dX8_collectWord_16 : decode cX8_collectWord 16 = .ok (.getfield 113, 3) := by decide +kernel
theorem dX8_collectWord_19 : decode cX8_collectWord 19 = .ok (.bipush 96, 2) := by decide +kernel
theorem dX8_collectWord_21 : decode cX8_collectWord 21 = .ok (.if_icmp .lt 4, 3) := by decide +kernel
theorem dX8_collectWord_24 : decode cX8_collectWord 24 = .ok (.return_, 1) := by decide +kernel
theorem dX8_collectWord_25 : decode cX8_collectWord 25 = .ok (.iconst 0, 1) := by decide +kernel
theorem dX8_collectWord_26 : decode cX8_collectWord 26 = .ok (.istore_n 3, 1) := by decide +kernel
theorem dX8_collectWord_27 : decode cX8_collectWord 27 = .ok (.iload_n 3, 1) := by decide +kernel
theorem dX8_collectWord_28 : decode cX8_collectWord 28 = .ok (.iload_n 2, 1) := by decide +kernel
theorem dX8_collectWord_29 : decode cX8_collectWord 29 = .ok (.if_icmp .ge 43, 3) := by decide +kernel
theorem dX8_collectWord_32 : decode cX8_collectWord 32 = .ok (.aload_n 0, 1) := by decide +kernel
theorem dX8_collectWord_33 : decode cX8_collectWord 33 = .ok (.aload_n 0, 1) := by decide +kernel
theorem dX8_collectWord_34 : decode cX8_collectWord 34 = .ok (.getfield 46, 3) := by decide +kernel
theorem dX8_collectWord_37 : decode cX8_collectWord 37 = .ok (.iload_n 1, 1) := by decide +kernel
theorem dX8_collectWord_38 : decode cX8_collectWord 38 = .ok (.iload_n 3, 1) := by decide +kernel
theorem dX8_collectWord_39 : decode cX8_collectWord 39 = .ok (.invokevirtual 127, 3) := by decide +kernel
theorem dX8_collectWord_42 : decode cX8_collectWord 42 = .ok (.invokevirtual 130, 3) := by decide +kernel
theorem dX8_collectWord_45 : decode cX8_collectWord 45 = .ok (.istore 4, 2) := by decide +kernel
theorem dX8_collectWord_47 : decode cX8_collectWord 47 = .ok (.iload 4, 2) := by decide +kernel
theorem dX8_collectWord_49 : decode cX8_collectWord 49 = .ok (.ifCond .ge 4, 3) := by decide +kernel
theorem dX8_collectWord_52 : decode cX8_collectWord 52 = .ok (.return_, 1) := by decide +kernel
theorem dX8_collectWord_53 : decode cX8_collectWord 53 = .ok (.aload_n 0, 1) := by decide +kernel
theorem dX8_collectWord_54 : decode cX8_collectWord 54 = .ok (.getfield 31, 3) := by decide +kernel
theorem dX8_collectWord_57 : decode cX8_collectWord 57 = .ok (.aload_n 0, 1) := by decide +kernel
theorem dX8_collectWord_58 : decode cX8_collectWord 58 = .ok (.getfield 113, 3) := by decide +kernel
theorem dX8_collectWord_61 : decode cX8_collectWord 61 = .ok (.aaload, 1) := by decide +kernel
theorem dX8_collectWord_62 : decode cX8_collectWord 62 = .ok (.iload_n 3, 1) := by decide +kernel
theorem dX8_collectWord_63 : decode cX8_collectWord 63 = .ok (.iload 4, 2) := by decide +kernel
theorem dX8_collectWord_65 : decode cX8_collectWord 65 = .ok (.iastore, 1) := by decide +kernel
theorem dX8_collectWord_66 : decode cX8_collectWord 66 = .ok (.iinc 3 1, 3) := by decide +kernel
theorem dX8_collectWord_69 : decode cX8_collectWord 69 = .ok (.goto (-42), 3) := by decide +kernel
theorem dX8_collectWord_72 : decode cX8_collectWord 72 = .ok (.aload_n 0, 1) := by decide +kernel
theorem dX8_collectWord_73 : decode cX8_collectWord 73 = .ok (.getfield 34, 3) := by decide +kernel
theorem dX8_collectWord_76 : decode cX8_collectWord 76 = .ok (.aload_n 0, 1) := by decide +kernel
theorem dX8_collectWord_77 : decode cX8_collectWord 77 = .ok (.getfield 113, 3) := by decide +kernel
theorem dX8_collectWord_80 : decode cX8_collectWord 80 = .ok (.iload_n 2, 1) := by decide +kernel
theorem dX8_collectWord_81 : decode cX8_collectWord 81 = .ok (.iastore, 1) := by decide +kernel
theorem dX8_collectWord_82 : decode cX8_collectWord 82 = .ok (.aload_n 0, 1) := by decide +kernel
theorem dX8_collectWord_83 : decode cX8_collectWord 83 = .ok (.dup, 1) := by decide +kernel
theorem dX8_collectWord_84 : decode cX8_collectWord 84 = .ok (.getfield 113, 3) := by decide +kernel
theorem dX8_collectWord_87 : decode cX8_collectWord 87 = .ok (.iconst 1, 1) := by decide +kernel
theorem dX8_collectWord_88 : decode cX8_collectWord 88 = .ok (.iadd, 1) := by decide +kernel
theorem dX8_collectWord_89 : decode cX8_collectWord 89 = .ok (.putfield 113, 3) := by decide +kernel
theorem dX8_collectWord_92 : decode cX8_collectWord 92 = .ok (.return_, 1) := by decide +kernel
theorem dX8_placeOf_0 : decode cX8_placeOf 0 = .ok (.iload_n 1, 1) := by decide +kernel
theorem dX8_placeOf_1 : decode cX8_placeOf 1 = .ok (.ifCond .lt 18, 3) := by decide +kernel
theorem dX8_placeOf_4 : decode cX8_placeOf 4 = .ok (.iload_n 1, 1) := by decide +kernel
theorem dX8_placeOf_5 : decode cX8_placeOf 5 = .ok (.bipush 24, 2) := by decide +kernel
theorem dX8_placeOf_7 : decode cX8_placeOf 7 = .ok (.if_icmp .ge 12, 3) := by decide +kernel
theorem dX8_placeOf_10 : decode cX8_placeOf 10 = .ok (.aload_n 0, 1) := by decide +kernel
theorem dX8_placeOf_11 : decode cX8_placeOf 11 = .ok (.getfield 24, 3) := by decide +kernel
theorem dX8_placeOf_14 : decode cX8_placeOf 14 = .ok (.iload_n 1, 1) := by decide +kernel
theorem dX8_placeOf_15 : decode cX8_placeOf 15 = .ok (.iaload, 1) := by decide +kernel
theorem dX8_placeOf_16 : decode cX8_placeOf 16 = .ok (.goto 5, 3) := by decide +kernel
theorem dX8_placeOf_19 : decode cX8_placeOf 19 = .ok (.bipush (-4), 2) := by decide +kernel
theorem dX8_placeOf_21 : decode cX8_placeOf 21 = .ok (.ireturn, 1) := by decide +kernel
theorem dX8_spread_0 : decode cX8_spread 0 = .ok (.iconst 0, 1) := by decide +kernel
theorem dX8_spread_1 : decode cX8_spread 1 = .ok (.istore_n 2, 1) := by decide +kernel
theorem dX8_spread_2 : decode cX8_spread 2 = .ok (.iload_n 2, 1) := by decide +kernel
theorem dX8_spread_3 : decode cX8_spread 3 = .ok (.aload_n 0, 1) := by decide +kernel
theorem dX8_spread_4 : decode cX8_spread 4 = .ok (.getfield 71, 3) := by decide +kernel
theorem dX8_spread_7 : decode cX8_spread 7 = .ok (.if_icmp .ge 22, 3) := by decide +kernel
theorem dX8_spread_10 : decode cX8_spread 10 = .ok (.aload_n 0, 1) := by decide +kernel
theorem dX8_spread_11 : decode cX8_spread 11 = .ok (.getfield 37, 3) := by decide +kernel
theorem dX8_spread_14 : decode cX8_spread 14 = .ok (.iload_n 2, 1) := by decide +kernel
theorem dX8_spread_15 : decode cX8_spread 15 = .ok (.iload_n 1, 1) := by decide +kernel
theorem dX8_spread_16 : decode cX8_spread 16 = .ok (.iconst 2, 1) := by decide +kernel
theorem dX8_spread_17 : decode cX8_spread 17 = .ok (.iload_n 2, 1) := by decide +kernel
theorem dX8_spread_18 : decode cX8_spread 18 = .ok (.imul, 1) := by decide +kernel
theorem dX8_spread_19 : decode cX8_spread 19 = .ok (.ishr, 1) := by decide +kernel
theorem dX8_spread_20 : decode cX8_spread 20 = .ok (.iconst 3, 1) := by decide +kernel
theorem dX8_spread_21 : decode cX8_spread 21 = .ok (.iand, 1) := by decide +kernel
theorem dX8_spread_22 : decode cX8_spread 22 = .ok (.iastore, 1) := by decide +kernel
theorem dX8_spread_23 : decode cX8_spread 23 = .ok (.iinc 2 1, 3) := by decide +kernel
theorem dX8_spread_26 : decode cX8_spread 26 = .ok (.goto (-24), 3) := by decide +kernel
theorem dX8_spread_29 : decode cX8_spread 29 = .ok (.return_, 1) := by decide +kernel
theorem dX8_readNow_0 : decode cX8_readNow 0 = .ok (.iconst 0, 1) := by decide +kernel
theorem dX8_readNow_1 : decode cX8_readNow 1 = .ok (.istore_n 1, 1) := by decide +kernel
theorem dX8_readNow_2 : decode cX8_readNow 2 = .ok (.iconst 0, 1) := by decide +kernel
theorem dX8_readNow_3 : decode cX8_readNow 3 = .ok (.istore_n 2, 1) := by decide +kernel
theorem dX8_readNow_4 : decode cX8_readNow 4 = .ok (.iload_n 2, 1) := by decide +kernel
theorem dX8_readNow_5 : decode cX8_readNow 5 = .ok (.aload_n 0, 1) := by decide +kernel
theorem dX8_readNow_6 : decode cX8_readNow 6 = .ok (.getfield 113, 3) := by decide +kernel
theorem dX8_readNow_9 : decode cX8_readNow 9 = .ok (.if_icmp .ge 70, 3) := by decide +kernel
theorem dX8_readNow_12 : decode cX8_readNow 12 = .ok (.iconst 0, 1) := by decide +kernel
theorem dX8_readNow_13 : decode cX8_readNow 13 = .ok (.istore_n 3, 1) := by decide +kernel
theorem dX8_readNow_14 : decode cX8_readNow 14 = .ok (.iconst 0, 1) := by decide +kernel
theorem dX8_readNow_15 : decode cX8_readNow 15 = .ok (.istore 4, 2) := by decide +kernel
theorem dX8_readNow_17 : decode cX8_readNow 17 = .ok (.iload 4, 2) := by decide +kernel
theorem dX8_readNow_19 : decode cX8_readNow 19 = .ok (.aload_n 0, 1) := by decide +kernel
theorem dX8_readNow_20 : decode cX8_readNow 20 = .ok (.getfield 34, 3) := by decide +kernel
theorem dX8_readNow_23 : decode cX8_readNow 23 = .ok (.iload_n 2, 1) := by decide +kernel
theorem dX8_readNow_24 : decode cX8_readNow 24 = .ok (.iaload, 1) := by decide +kernel
theorem dX8_readNow_25 : decode cX8_readNow 25 = .ok (.if_icmp .ge 28, 3) := by decide +kernel
theorem dX8_readNow_28 : decode cX8_readNow 28 = .ok (.iload_n 3, 1) := by decide +kernel
theorem dX8_readNow_29 : decode cX8_readNow 29 = .ok (.iconst 2, 1) := by decide +kernel
theorem dX8_readNow_30 : decode cX8_readNow 30 = .ok (.ishl, 1) := by decide +kernel
theorem dX8_readNow_31 : decode cX8_readNow 31 = .ok (.aload_n 0, 1) := by decide +kernel
theorem dX8_readNow_32 : decode cX8_readNow 32 = .ok (.getfield 37, 3) := by decide +kernel
theorem dX8_readNow_35 : decode cX8_readNow 35 = .ok (.aload_n 0, 1) := by decide +kernel
theorem dX8_readNow_36 : decode cX8_readNow 36 = .ok (.getfield 31, 3) := by decide +kernel
theorem dX8_readNow_39 : decode cX8_readNow 39 = .ok (.iload_n 2, 1) := by decide +kernel
theorem dX8_readNow_40 : decode cX8_readNow 40 = .ok (.aaload, 1) := by decide +kernel
theorem dX8_readNow_41 : decode cX8_readNow 41 = .ok (.iload 4, 2) := by decide +kernel
theorem dX8_readNow_43 : decode cX8_readNow 43 = .ok (.iaload, 1) := by decide +kernel
theorem dX8_readNow_44 : decode cX8_readNow 44 = .ok (.iaload, 1) := by decide +kernel
theorem dX8_readNow_45 : decode cX8_readNow 45 = .ok (.ior, 1) := by decide +kernel
theorem dX8_readNow_46 : decode cX8_readNow 46 = .ok (.istore_n 3, 1) := by decide +kernel
theorem dX8_readNow_47 : decode cX8_readNow 47 = .ok (.iinc 4 1, 3) := by decide +kernel
theorem dX8_readNow_50 : decode cX8_readNow 50 = .ok (.goto (-33), 3) := by decide +kernel
theorem dX8_readNow_53 : decode cX8_readNow 53 = .ok (.aload_n 0, 1) := by decide +kernel
theorem dX8_readNow_54 : decode cX8_readNow 54 = .ok (.aload_n 0, 1) := by decide +kernel
theorem dX8_readNow_55 : decode cX8_readNow 55 = .ok (.getfield 34, 3) := by decide +kernel
theorem dX8_readNow_58 : decode cX8_readNow 58 = .ok (.iload_n 2, 1) := by decide +kernel
theorem dX8_readNow_59 : decode cX8_readNow 59 = .ok (.iaload, 1) := by decide +kernel
theorem dX8_readNow_60 : decode cX8_readNow 60 = .ok (.iload_n 3, 1) := by decide +kernel
theorem dX8_readNow_61 : decode cX8_readNow 61 = .ok (.invokestatic 60, 3) := by decide +kernel
theorem dX8_readNow_64 : decode cX8_readNow 64 = .ok (.invokevirtual 64, 3) := by decide +kernel
theorem dX8_readNow_67 : decode cX8_readNow 67 = .ok (.ifCond .eq 6, 3) := by decide +kernel
theorem dX8_readNow_70 : decode cX8_readNow 70 = .ok (.iinc 1 1, 3) := by decide +kernel
theorem dX8_readNow_73 : decode cX8_readNow 73 = .ok (.iinc 2 1, 3) := by decide +kernel
theorem dX8_readNow_76 : decode cX8_readNow 76 = .ok (.goto (-72), 3) := by decide +kernel
theorem dX8_readNow_79 : decode cX8_readNow 79 = .ok (.iload_n 1, 1) := by decide +kernel
theorem dX8_readNow_80 : decode cX8_readNow 80 = .ok (.ireturn, 1) := by decide +kernel
theorem dX8_searchBest_0 : decode cX8_searchBest 0 = .ok (.aload_n 0, 1) := by decide +kernel
theorem dX8_searchBest_1 : decode cX8_searchBest 1 = .ok (.iconst (-1), 1) := by decide +kernel
theorem dX8_searchBest_2 : decode cX8_searchBest 2 = .ok (.putfield 97, 3) := by decide +kernel
theorem dX8_searchBest_5 : decode cX8_searchBest 5 = .ok (.aload_n 0, 1) := by decide +kernel
theorem dX8_searchBest_6 : decode cX8_searchBest 6 = .ok (.iconst 0, 1) := by decide +kernel
theorem dX8_searchBest_7 : decode cX8_searchBest 7 = .ok (.putfield 100, 3) := by decide +kernel
theorem dX8_searchBest_10 : decode cX8_searchBest 10 = .ok (.iconst 0, 1) := by decide +kernel
theorem dX8_searchBest_11 : decode cX8_searchBest 11 = .ok (.istore_n 1, 1) := by decide +kernel
theorem dX8_searchBest_12 : decode cX8_searchBest 12 = .ok (.iload_n 1, 1) := by decide +kernel
theorem dX8_searchBest_13 : decode cX8_searchBest 13 = .ok (.aload_n 0, 1) := by decide +kernel
theorem dX8_searchBest_14 : decode cX8_searchBest 14 = .ok (.invokevirtual 77, 3) := by decide +kernel
theorem dX8_searchBest_17 : decode cX8_searchBest 17 = .ok (.if_icmp .ge 53, 3) := by decide +kernel
theorem dX8_searchBest_20 : decode cX8_searchBest 20 = .ok (.iconst 0, 1) := by decide +kernel
theorem dX8_searchBest_21 : decode cX8_searchBest 21 = .ok (.istore_n 2, 1) := by decide +kernel
theorem dX8_searchBest_22 : decode cX8_searchBest 22 = .ok (.iload_n 2, 1) := by decide +kernel
theorem dX8_searchBest_23 : decode cX8_searchBest 23 = .ok (.aload_n 0, 1) := by decide +kernel
theorem dX8_searchBest_24 : decode cX8_searchBest 24 = .ok (.getfield 71, 3) := by decide +kernel
theorem dX8_searchBest_27 : decode cX8_searchBest 27 = .ok (.if_icmp .ge 29, 3) := by decide +kernel
theorem dX8_searchBest_30 : decode cX8_searchBest 30 = .ok (.aload_n 0, 1) := by decide +kernel
theorem dX8_searchBest_31 : decode cX8_searchBest 31 = .ok (.getfield 37, 3) := by decide +kernel
theorem dX8_searchBest_34 : decode cX8_searchBest 34 = .ok (.iload_n 2, 1) := by decide +kernel
theorem dX8_searchBest_35 : decode cX8_searchBest 35 = .ok (.iload_n 1, 1) := by decide +kernel
theorem dX8_searchBest_36 : decode cX8_searchBest 36 = .ok (.iconst 2, 1) := by decide +kernel
theorem dX8_searchBest_37 : decode cX8_searchBest 37 = .ok (.aload_n 0, 1) := by decide +kernel
theorem dX8_searchBest_38 : decode cX8_searchBest 38 = .ok (.getfield 71, 3) := by decide +kernel
theorem dX8_searchBest_41 : decode cX8_searchBest 41 = .ok (.iconst 1, 1) := by decide +kernel
theorem dX8_searchBest_42 : decode cX8_searchBest 42 = .ok (.isub, 1) := by decide +kernel
theorem dX8_searchBest_43 : decode cX8_searchBest 43 = .ok (.iload_n 2, 1) := by decide +kernel
theorem dX8_searchBest_44 : decode cX8_searchBest 44 = .ok (.isub, 1) := by decide +kernel
theorem dX8_searchBest_45 : decode cX8_searchBest 45 = .ok (.imul, 1) := by decide +kernel
theorem dX8_searchBest_46 : decode cX8_searchBest 46 = .ok (.ishr, 1) := by decide +kernel
theorem dX8_searchBest_47 : decode cX8_searchBest 47 = .ok (.iconst 3, 1) := by decide +kernel
theorem dX8_searchBest_48 : decode cX8_searchBest 48 = .ok (.iand, 1) := by decide +kernel
theorem dX8_searchBest_49 : decode cX8_searchBest 49 = .ok (.iastore, 1) := by decide +kernel
theorem dX8_searchBest_50 : decode cX8_searchBest 50 = .ok (.iinc 2 1, 3) := by decide +kernel
theorem dX8_searchBest_53 : decode cX8_searchBest 53 = .ok (.goto (-31), 3) := by decide +kernel
theorem dX8_searchBest_56 : decode cX8_searchBest 56 = .ok (.aload_n 0, 1) := by decide +kernel
theorem dX8_searchBest_57 : decode cX8_searchBest 57 = .ok (.aload_n 0, 1) := by decide +kernel
theorem dX8_searchBest_58 : decode cX8_searchBest 58 = .ok (.invokevirtual 88, 3) := by decide +kernel
theorem dX8_searchBest_61 : decode cX8_searchBest 61 = .ok (.invokevirtual 133, 3) := by decide +kernel
theorem dX8_searchBest_64 : decode cX8_searchBest 64 = .ok (.iinc 1 1, 3) := by decide +kernel
theorem dX8_searchBest_67 : decode cX8_searchBest 67 = .ok (.goto (-55), 3) := by decide +kernel
theorem dX8_searchBest_70 : decode cX8_searchBest 70 = .ok (.return_, 1) := by decide +kernel
theorem dX8_weigh_0 : decode cX8_weigh 0 = .ok (.iload_n 1, 1) := by decide +kernel
theorem dX8_weigh_1 : decode cX8_weigh 1 = .ok (.aload_n 0, 1) := by decide +kernel
theorem dX8_weigh_2 : decode cX8_weigh 2 = .ok (.getfield 97, 3) := by decide +kernel
theorem dX8_weigh_5 : decode cX8_weigh 5 = .ok (.if_icmp .le 41, 3) := by decide +kernel
theorem dX8_weigh_8 : decode cX8_weigh 8 = .ok (.aload_n 0, 1) := by decide +kernel
theorem dX8_weigh_9 : decode cX8_weigh 9 = .ok (.iload_n 1, 1) := by decide +kernel
theorem dX8_weigh_10 : decode cX8_weigh 10 = .ok (.putfield 97, 3) := by decide +kernel
theorem dX8_weigh_13 : decode cX8_weigh 13 = .ok (.aload_n 0, 1) := by decide +kernel
theorem dX8_weigh_14 : decode cX8_weigh 14 = .ok (.iconst 0, 1) := by decide +kernel
theorem dX8_weigh_15 : decode cX8_weigh 15 = .ok (.putfield 100, 3) := by decide +kernel
theorem dX8_weigh_18 : decode cX8_weigh 18 = .ok (.iconst 0, 1) := by decide +kernel
theorem dX8_weigh_19 : decode cX8_weigh 19 = .ok (.istore_n 2, 1) := by decide +kernel
theorem dX8_weigh_20 : decode cX8_weigh 20 = .ok (.iload_n 2, 1) := by decide +kernel
theorem dX8_weigh_21 : decode cX8_weigh 21 = .ok (.aload_n 0, 1) := by decide +kernel
theorem dX8_weigh_22 : decode cX8_weigh 22 = .ok (.getfield 71, 3) := by decide +kernel
theorem dX8_weigh_25 : decode cX8_weigh 25 = .ok (.if_icmp .ge 21, 3) := by decide +kernel
theorem dX8_weigh_28 : decode cX8_weigh 28 = .ok (.aload_n 0, 1) := by decide +kernel
theorem dX8_weigh_29 : decode cX8_weigh 29 = .ok (.getfield 40, 3) := by decide +kernel
theorem dX8_weigh_32 : decode cX8_weigh 32 = .ok (.iload_n 2, 1) := by decide +kernel
theorem dX8_weigh_33 : decode cX8_weigh 33 = .ok (.aload_n 0, 1) := by decide +kernel
theorem dX8_weigh_34 : decode cX8_weigh 34 = .ok (.getfield 37, 3) := by decide +kernel
theorem dX8_weigh_37 : decode cX8_weigh 37 = .ok (.iload_n 2, 1) := by decide +kernel
theorem dX8_weigh_38 : decode cX8_weigh 38 = .ok (.iaload, 1) := by decide +kernel
theorem dX8_weigh_39 : decode cX8_weigh 39 = .ok (.iastore, 1) := by decide +kernel
theorem dX8_weigh_40 : decode cX8_weigh 40 = .ok (.iinc 2 1, 3) := by decide +kernel
theorem dX8_weigh_43 : decode cX8_weigh 43 = .ok (.goto (-23), 3) := by decide +kernel
theorem dX8_weigh_46 : decode cX8_weigh 46 = .ok (.iload_n 1, 1) := by decide +kernel
theorem dX8_weigh_47 : decode cX8_weigh 47 = .ok (.aload_n 0, 1) := by decide +kernel
theorem dX8_weigh_48 : decode cX8_weigh 48 = .ok (.getfield 97, 3) := by decide +kernel
theorem dX8_weigh_51 : decode cX8_weigh 51 = .ok (.if_icmp .ne 13, 3) := by decide +kernel
theorem dX8_weigh_54 : decode cX8_weigh 54 = .ok (.aload_n 0, 1) := by decide +kernel
theorem dX8_weigh_55 : decode cX8_weigh 55 = .ok (.dup, 1) := by decide +kernel
theorem dX8_weigh_56 : decode cX8_weigh 56 = .ok (.getfield 100, 3) := by decide +kernel
theorem dX8_weigh_59 : decode cX8_weigh 59 = .ok (.iconst 1, 1) := by decide +kernel
theorem dX8_weigh_60 : decode cX8_weigh 60 = .ok (.iadd, 1) := by decide +kernel
theorem dX8_weigh_61 : decode cX8_weigh 61 = .ok (.putfield 100, 3) := by decide +kernel
theorem dX8_weigh_64 : decode cX8_weigh 64 = .ok (.return_, 1) := by decide +kernel
theorem dX8_packBest_0 : decode cX8_packBest 0 = .ok (.iconst 0, 1) := by decide +kernel
theorem dX8_packBest_1 : decode cX8_packBest 1 = .ok (.istore_n 1, 1) := by decide +kernel
theorem dX8_packBest_2 : decode cX8_packBest 2 = .ok (.iconst 0, 1) := by decide +kernel
theorem dX8_packBest_3 : decode cX8_packBest 3 = .ok (.istore_n 2, 1) := by decide +kernel
theorem dX8_packBest_4 : decode cX8_packBest 4 = .ok (.iload_n 2, 1) := by decide +kernel
theorem dX8_packBest_5 : decode cX8_packBest 5 = .ok (.aload_n 0, 1) := by decide +kernel
theorem dX8_packBest_6 : decode cX8_packBest 6 = .ok (.getfield 71, 3) := by decide +kernel
theorem dX8_packBest_9 : decode cX8_packBest 9 = .ok (.if_icmp .ge 22, 3) := by decide +kernel
theorem dX8_packBest_12 : decode cX8_packBest 12 = .ok (.iload_n 1, 1) := by decide +kernel
theorem dX8_packBest_13 : decode cX8_packBest 13 = .ok (.aload_n 0, 1) := by decide +kernel
theorem dX8_packBest_14 : decode cX8_packBest 14 = .ok (.getfield 40, 3) := by decide +kernel
theorem dX8_packBest_17 : decode cX8_packBest 17 = .ok (.iload_n 2, 1) := by decide +kernel
theorem dX8_packBest_18 : decode cX8_packBest 18 = .ok (.iaload, 1) := by decide +kernel
theorem dX8_packBest_19 : decode cX8_packBest 19 = .ok (.iconst 2, 1) := by decide +kernel
theorem dX8_packBest_20 : decode cX8_packBest 20 = .ok (.iload_n 2, 1) := by decide +kernel
theorem dX8_packBest_21 : decode cX8_packBest 21 = .ok (.imul, 1) := by decide +kernel
theorem dX8_packBest_22 : decode cX8_packBest 22 = .ok (.ishl, 1) := by decide +kernel
theorem dX8_packBest_23 : decode cX8_packBest 23 = .ok (.ior, 1) := by decide +kernel
theorem dX8_packBest_24 : decode cX8_packBest 24 = .ok (.istore_n 1, 1) := by decide +kernel
theorem dX8_packBest_25 : decode cX8_packBest 25 = .ok (.iinc 2 1, 3) := by decide +kernel
theorem dX8_packBest_28 : decode cX8_packBest 28 = .ok (.goto (-24), 3) := by decide +kernel
theorem dX8_packBest_31 : decode cX8_packBest 31 = .ok (.iload_n 1, 1) := by decide +kernel
theorem dX8_packBest_32 : decode cX8_packBest 32 = .ok (.ireturn, 1) := by decide +kernel
theorem dX8_tellShuffles_0 : decode cX8_tellShuffles 0 = .ok (.iconst 0, 1) := by decide +kernel
theorem dX8_tellShuffles_1 : decode cX8_tellShuffles 1 = .ok (.istore_n 3, 1) := by decide +kernel
theorem dX8_tellShuffles_2 : decode cX8_tellShuffles 2 = .ok (.iconst 0, 1) := by decide +kernel
theorem dX8_tellShuffles_3 : decode cX8_tellShuffles 3 = .ok (.istore 4, 2) := by decide +kernel
theorem dX8_tellShuffles_5 : decode cX8_tellShuffles 5 = .ok (.iconst 0, 1) := by decide +kernel
theorem dX8_tellShuffles_6 : decode cX8_tellShuffles 6 = .ok (.istore 5, 2) := by decide +kernel
theorem dX8_tellShuffles_8 : decode cX8_tellShuffles 8 = .ok (.iload 5, 2) := by decide +kernel
theorem dX8_tellShuffles_10 : decode cX8_tellShuffles 10 = .ok (.aload_n 0, 1) := by decide +kernel
theorem dX8_tellShuffles_11 : decode cX8_tellShuffles 11 = .ok (.getfield 71, 3) := by decide +kernel
theorem dX8_tellShuffles_14 : decode cX8_tellShuffles 14 = .ok (.if_icmp .ge 18, 3) := by decide +kernel
theorem dX8_tellShuffles_17 : decode cX8_tellShuffles 17 = .ok (.aload_n 0, 1) := by decide +kernel
theorem dX8_tellShuffles_18 : decode cX8_tellShuffles 18 = .ok (.getfield 43, 3) := by decide +kernel
theorem dX8_tellShuffles_21 : decode cX8_tellShuffles 21 = .ok (.iload 5, 2) := by decide +kernel
theorem dX8_tellShuffles_23 : decode cX8_tellShuffles 23 = .ok (.iload 5, 2) := by decide +kernel
theorem dX8_tellShuffles_25 : decode cX8_tellShuffles 25 = .ok (.iastore, 1) := by decide +kernel
theorem dX8_tellShuffles_26 : decode cX8_tellShuffles 26 = .ok (.iinc 5 1, 3) := by decide +kernel
theorem dX8_tellShuffles_29 : decode cX8_tellShuffles 29 = .ok (.goto (-21), 3) := by decide +kernel
theorem dX8_tellShuffles_32 : decode cX8_tellShuffles 32 = .ok (.iconst 0, 1) := by decide +kernel
theorem dX8_tellShuffles_33 : decode cX8_tellShuffles 33 = .ok (.istore 5, 2) := by decide +kernel
theorem dX8_tellShuffles_35 : decode cX8_tellShuffles 35 = .ok (.iload 5, 2) := by decide +kernel
theorem dX8_tellShuffles_37 : decode cX8_tellShuffles 37 = .ok (.sipush 720, 3) := by decide +kernel
theorem dX8_tellShuffles_40 : decode cX8_tellShuffles 40 = .ok (.if_icmp .ge 70, 3) := by decide +kernel
theorem dX8_tellShuffles_43 : decode cX8_tellShuffles 43 = .ok (.iconst 0, 1) := by decide +kernel
theorem dX8_tellShuffles_44 : decode cX8_tellShuffles 44 = .ok (.istore 6, 2) := by decide +kernel
theorem dX8_tellShuffles_46 : decode cX8_tellShuffles 46 = .ok (.iload 6, 2) := by decide +kernel
theorem dX8_tellShuffles_48 : decode cX8_tellShuffles 48 = .ok (.aload_n 0, 1) := by decide +kernel
theorem dX8_tellShuffles_49 : decode cX8_tellShuffles 49 = .ok (.getfield 71, 3) := by decide +kernel
theorem dX8_tellShuffles_52 : decode cX8_tellShuffles 52 = .ok (.if_icmp .ge 28, 3) := by decide +kernel
theorem dX8_tellShuffles_55 : decode cX8_tellShuffles 55 = .ok (.aload_n 0, 1) := by decide +kernel
theorem dX8_tellShuffles_56 : decode cX8_tellShuffles 56 = .ok (.getfield 37, 3) := by decide +kernel
theorem dX8_tellShuffles_59 : decode cX8_tellShuffles 59 = .ok (.iload 6, 2) := by decide +kernel
theorem dX8_tellShuffles_61 : decode cX8_tellShuffles 61 = .ok (.aload_n 0, 1) := by decide +kernel
theorem dX8_tellShuffles_62 : decode cX8_tellShuffles 62 = .ok (.getfield 40, 3) := by decide +kernel
theorem dX8_tellShuffles_65 : decode cX8_tellShuffles 65 = .ok (.aload_n 0, 1) := by decide +kernel
theorem dX8_tellShuffles_66 : decode cX8_tellShuffles 66 = .ok (.getfield 43, 3) := by decide +kernel
theorem dX8_tellShuffles_69 : decode cX8_tellShuffles 69 = .ok (.iload 6, 2) := by decide +kernel
theorem dX8_tellShuffles_71 : decode cX8_tellShuffles 71 = .ok (.iaload, 1) := by decide +kernel
theorem dX8_tellShuffles_72 : decode cX8_tellShuffles 72 = .ok (.iaload, 1) := by decide +kernel
theorem dX8_tellShuffles_73 : decode cX8_tellShuffles 73 = .ok (.iastore, 1) := by decide +kernel
theorem dX8_tellShuffles_74 : decode cX8_tellShuffles 74 = .ok (.iinc 6 1, 3) := by decide +kernel
theorem dX8_tellShuffles_77 : decode cX8_tellShuffles 77 = .ok (.goto (-31), 3) := by decide +kernel
theorem dX8_tellShuffles_80 : decode cX8_tellShuffles 80 = .ok (.iinc 3 1, 3) := by decide +kernel
theorem dX8_tellShuffles_83 : decode cX8_tellShuffles 83 = .ok (.aload_n 0, 1) := by decide +kernel
theorem dX8_tellShuffles_84 : decode cX8_tellShuffles 84 = .ok (.invokevirtual 88, 3) := by decide +kernel
theorem dX8_tellShuffles_87 : decode cX8_tellShuffles 87 = .ok (.iload_n 1, 1) := by decide +kernel
theorem dX8_tellShuffles_88 : decode cX8_tellShuffles 88 = .ok (.if_icmp .lt 6, 3) := by decide +kernel
theorem dX8_tellShuffles_91 : decode cX8_tellShuffles 91 = .ok (.iinc 4 1, 3) := by decide +kernel
theorem dX8_tellShuffles_94 : decode cX8_tellShuffles 94 = .ok (.aload_n 0, 1) := by decide +kernel
theorem dX8_tellShuffles_95 : decode cX8_tellShuffles 95 = .ok (.invokevirtual 136, 3) := by decide +kernel
theorem dX8_tellShuffles_98 : decode cX8_tellShuffles 98 = .ok (.ifCond .ne 6, 3) := by decide +kernel
theorem dX8_tellShuffles_101 : decode cX8_tellShuffles 101 = .ok (.goto 9, 3) := by decide +kernel
theorem dX8_tellShuffles_104 : decode cX8_tellShuffles 104 = .ok (.iinc 5 1, 3) := by decide +kernel
theorem dX8_tellShuffles_107 : decode cX8_tellShuffles 107 = .ok (.goto (-72), 3) := by decide +kernel
theorem dX8_tellShuffles_110 : decode cX8_tellShuffles 110 = .ok (.iload_n 2, 1) := by decide +kernel
theorem dX8_tellShuffles_111 : decode cX8_tellShuffles 111 = .ok (.iconst 1, 1) := by decide +kernel
theorem dX8_tellShuffles_112 : decode cX8_tellShuffles 112 = .ok (.if_icmp .ne 8, 3) := by decide +kernel
theorem dX8_tellShuffles_115 : decode cX8_tellShuffles 115 = .ok (.iload 4, 2) := by decide +kernel
theorem dX8_tellShuffles_117 : decode cX8_tellShuffles 117 = .ok (.goto 4, 3) := by decide +kernel
theorem dX8_tellShuffles_120 : decode cX8_tellShuffles 120 = .ok (.iload_n 3, 1) := by decide +kernel
theorem dX8_tellShuffles_121 : decode cX8_tellShuffles 121 = .ok (.ireturn, 1) := by decide +kernel
theorem dX8_nextOrder_0 : decode cX8_nextOrder 0 = .ok (.aload_n 0, 1) := by decide +kernel
theorem dX8_nextOrder_1 : decode cX8_nextOrder 1 = .ok (.getfield 71, 3) := by decide +kernel
theorem dX8_nextOrder_4 : decode cX8_nextOrder 4 = .ok (.iconst 2, 1) := by decide +kernel
theorem dX8_nextOrder_5 : decode cX8_nextOrder 5 = .ok (.isub, 1) := by decide +kernel
theorem dX8_nextOrder_6 : decode cX8_nextOrder 6 = .ok (.istore_n 1, 1) := by decide +kernel
theorem dX8_nextOrder_7 : decode cX8_nextOrder 7 = .ok (.iload_n 1, 1) := by decide +kernel
theorem dX8_nextOrder_8 : decode cX8_nextOrder 8 = .ok (.ifCond .lt 26, 3) := by decide +kernel
theorem dX8_nextOrder_11 : decode cX8_nextOrder 11 = .ok (.aload_n 0, 1) := by decide +kernel
theorem dX8_nextOrder_12 : decode cX8_nextOrder 12 = .ok (.getfield 43, 3) := by decide +kernel
theorem dX8_nextOrder_15 : decode cX8_nextOrder 15 = .ok (.iload_n 1, 1) := by decide +kernel
theorem dX8_nextOrder_16 : decode cX8_nextOrder 16 = .ok (.iaload, 1) := by decide +kernel
theorem dX8_nextOrder_17 : decode cX8_nextOrder 17 = .ok (.aload_n 0, 1) := by decide +kernel
theorem dX8_nextOrder_18 : decode cX8_nextOrder 18 = .ok (.getfield 43, 3) := by decide +kernel
theorem dX8_nextOrder_21 : decode cX8_nextOrder 21 = .ok (.iload_n 1, 1) := by decide +kernel
theorem dX8_nextOrder_22 : decode cX8_nextOrder 22 = .ok (.iconst 1, 1) := by decide +kernel
theorem dX8_nextOrder_23 : decode cX8_nextOrder 23 = .ok (.iadd, 1) := by decide +kernel
theorem dX8_nextOrder_24 : decode cX8_nextOrder 24 = .ok (.iaload, 1) := by decide +kernel
theorem dX8_nextOrder_25 : decode cX8_nextOrder 25 = .ok (.if_icmp .le 9, 3) := by decide +kernel
theorem dX8_nextOrder_28 : decode cX8_nextOrder 28 = .ok (.iinc 1 (-1), 3) := by decide +kernel
theorem dX8_nextOrder_31 : decode cX8_nextOrder 31 = .ok (.goto (-24), 3) := by decide +kernel
theorem dX8_nextOrder_34 : decode cX8_nextOrder 34 = .ok (.iload_n 1, 1) := by decide +kernel
theorem dX8_nextOrder_35 : decode cX8_nextOrder 35 = .ok (.ifCond .ge 5, 3) := by decide +kernel
theorem dX8_nextOrder_38 : decode cX8_nextOrder 38 = .ok (.iconst 0, 1) := by decide +kernel
theorem dX8_nextOrder_39 : decode cX8_nextOrder 39 = .ok (.ireturn, 1) := by decide +kernel
theorem dX8_nextOrder_40 : decode cX8_nextOrder 40 = .ok (.aload_n 0, 1) := by decide +kernel
theorem dX8_nextOrder_41 : decode cX8_nextOrder 41 = .ok (.getfield 71, 3) := by decide +kernel
theorem dX8_nextOrder_44 : decode cX8_nextOrder 44 = .ok (.iconst 1, 1) := by decide +kernel
theorem dX8_nextOrder_45 : decode cX8_nextOrder 45 = .ok (.isub, 1) := by decide +kernel
theorem dX8_nextOrder_46 : decode cX8_nextOrder 46 = .ok (.istore_n 2, 1) := by decide +kernel
theorem dX8_nextOrder_47 : decode cX8_nextOrder 47 = .ok (.iload_n 2, 1) := by decide +kernel
theorem dX8_nextOrder_48 : decode cX8_nextOrder 48 = .ok (.iload_n 1, 1) := by decide +kernel
theorem dX8_nextOrder_49 : decode cX8_nextOrder 49 = .ok (.if_icmp .le 24, 3) := by decide +kernel
theorem dX8_nextOrder_52 : decode cX8_nextOrder 52 = .ok (.aload_n 0, 1) := by decide +kernel
theorem dX8_nextOrder_53 : decode cX8_nextOrder 53 = .ok (.getfield 43, 3) := by decide +kernel
theorem dX8_nextOrder_56 : decode cX8_nextOrder 56 = .ok (.iload_n 2, 1) := by decide +kernel
theorem dX8_nextOrder_57 : decode cX8_nextOrder 57 = .ok (.iaload, 1) := by decide +kernel
theorem dX8_nextOrder_58 : decode cX8_nextOrder 58 = .ok (.aload_n 0, 1) := by decide +kernel
theorem dX8_nextOrder_59 : decode cX8_nextOrder 59 = .ok (.getfield 43, 3) := by decide +kernel
theorem dX8_nextOrder_62 : decode cX8_nextOrder 62 = .ok (.iload_n 1, 1) := by decide +kernel
theorem dX8_nextOrder_63 : decode cX8_nextOrder 63 = .ok (.iaload, 1) := by decide +kernel
theorem dX8_nextOrder_64 : decode cX8_nextOrder 64 = .ok (.if_icmp .ge 9, 3) := by decide +kernel
theorem dX8_nextOrder_67 : decode cX8_nextOrder 67 = .ok (.iinc 2 (-1), 3) := by decide +kernel
theorem dX8_nextOrder_70 : decode cX8_nextOrder 70 = .ok (.goto (-23), 3) := by decide +kernel
theorem dX8_nextOrder_73 : decode cX8_nextOrder 73 = .ok (.aload_n 0, 1) := by decide +kernel
theorem dX8_nextOrder_74 : decode cX8_nextOrder 74 = .ok (.iload_n 1, 1) := by decide +kernel
theorem dX8_nextOrder_75 : decode cX8_nextOrder 75 = .ok (.iload_n 2, 1) := by decide +kernel
theorem dX8_nextOrder_76 : decode cX8_nextOrder 76 = .ok (.invokevirtual 140, 3) := by decide +kernel
theorem dX8_nextOrder_79 : decode cX8_nextOrder 79 = .ok (.iload_n 1, 1) := by decide +kernel
theorem dX8_nextOrder_80 : decode cX8_nextOrder 80 = .ok (.iconst 1, 1) := by decide +kernel
theorem dX8_nextOrder_81 : decode cX8_nextOrder 81 = .ok (.iadd, 1) := by decide +kernel
theorem dX8_nextOrder_82 : decode cX8_nextOrder 82 = .ok (.istore_n 3, 1) := by decide +kernel
theorem dX8_nextOrder_83 : decode cX8_nextOrder 83 = .ok (.aload_n 0, 1) := by decide +kernel
theorem dX8_nextOrder_84 : decode cX8_nextOrder 84 = .ok (.getfield 71, 3) := by decide +kernel
theorem dX8_nextOrder_87 : decode cX8_nextOrder 87 = .ok (.iconst 1, 1) := by decide +kernel
theorem dX8_nextOrder_88 : decode cX8_nextOrder 88 = .ok (.isub, 1) := by decide +kernel
theorem dX8_nextOrder_89 : decode cX8_nextOrder 89 = .ok (.istore 4, 2) := by decide +kernel
theorem dX8_nextOrder_91 : decode cX8_nextOrder 91 = .ok (.iload_n 3, 1) := by decide +kernel
theorem dX8_nextOrder_92 : decode cX8_nextOrder 92 = .ok (.iload 4, 2) := by decide +kernel
theorem dX8_nextOrder_94 : decode cX8_nextOrder 94 = .ok (.if_icmp .ge 19, 3) := by decide +kernel
theorem dX8_nextOrder_97 : decode cX8_nextOrder 97 = .ok (.aload_n 0, 1) := by decide +kernel
theorem dX8_nextOrder_98 : decode cX8_nextOrder 98 = .ok (.iload_n 3, 1) := by decide +kernel
theorem dX8_nextOrder_99 : decode cX8_nextOrder 99 = .ok (.iload 4, 2) := by decide +kernel
theorem dX8_nextOrder_101 : decode cX8_nextOrder 101 = .ok (.invokevirtual 140, 3) := by decide +kernel
theorem dX8_nextOrder_104 : decode cX8_nextOrder 104 = .ok (.iinc 3 1, 3) := by decide +kernel
theorem dX8_nextOrder_107 : decode cX8_nextOrder 107 = .ok (.iinc 4 (-1), 3) := by decide +kernel
theorem dX8_nextOrder_110 : decode cX8_nextOrder 110 = .ok (.goto (-19), 3) := by decide +kernel
theorem dX8_nextOrder_113 : decode cX8_nextOrder 113 = .ok (.iconst 1, 1) := by decide +kernel
theorem dX8_nextOrder_114 : decode cX8_nextOrder 114 = .ok (.ireturn, 1) := by decide +kernel
theorem dX8_exchange_0 : decode cX8_exchange 0 = .ok (.aload_n 0, 1) := by decide +kernel
theorem dX8_exchange_1 : decode cX8_exchange 1 = .ok (.getfield 43, 3) := by decide +kernel
theorem dX8_exchange_4 : decode cX8_exchange 4 = .ok (.iload_n 1, 1) := by decide +kernel
theorem dX8_exchange_5 : decode cX8_exchange 5 = .ok (.iaload, 1) := by decide +kernel
theorem dX8_exchange_6 : decode cX8_exchange 6 = .ok (.istore_n 3, 1) := by decide +kernel
theorem dX8_exchange_7 : decode cX8_exchange 7 = .ok (.aload_n 0, 1) := by decide +kernel
theorem dX8_exchange_8 : decode cX8_exchange 8 = .ok (.getfield 43, 3) := by decide +kernel
theorem dX8_exchange_11 : decode cX8_exchange 11 = .ok (.iload_n 1, 1) := by decide +kernel
theorem dX8_exchange_12 : decode cX8_exchange 12 = .ok (.aload_n 0, 1) := by decide +kernel
theorem dX8_exchange_13 : decode cX8_exchange 13 = .ok (.getfield 43, 3) := by decide +kernel
theorem dX8_exchange_16 : decode cX8_exchange 16 = .ok (.iload_n 2, 1) := by decide +kernel
theorem dX8_exchange_17 : decode cX8_exchange 17 = .ok (.iaload, 1) := by decide +kernel
theorem dX8_exchange_18 : decode cX8_exchange 18 = .ok (.iastore, 1) := by decide +kernel
theorem dX8_exchange_19 : decode cX8_exchange 19 = .ok (.aload_n 0, 1) := by decide +kernel
theorem dX8_exchange_20 : decode cX8_exchange 20 = .ok (.getfield 43, 3) := by decide +kernel
theorem dX8_exchange_23 : decode cX8_exchange 23 = .ok (.iload_n 2, 1) := by decide +kernel
theorem dX8_exchange_24 : decode cX8_exchange 24 = .ok (.iload_n 3, 1) := by decide +kernel
theorem dX8_exchange_25 : decode cX8_exchange 25 = .ok (.iastore, 1) := by decide +kernel
theorem dX8_exchange_26 : decode cX8_exchange 26 = .ok (.return_, 1) := by decide +kernel
theorem dX9_init_0 : decode cX9_init 0 = .ok (.aload_n 0, 1) := by decide +kernel
theorem dX9_init_1 : decode cX9_init 1 = .ok (.invokespecial 1, 3) := by decide +kernel
theorem dX9_init_4 : decode cX9_init 4 = .ok (.new 7, 3) := by decide +kernel
theorem dX9_init_7 : decode cX9_init 7 = .ok (.dup, 1) := by decide +kernel
theorem dX9_init_8 : decode cX9_init 8 = .ok (.invokespecial 9, 3) := by decide +kernel
theorem dX9_init_11 : decode cX9_init 11 = .ok (.astore_n 1, 1) := by decide +kernel
theorem dX9_init_12 : decode cX9_init 12 = .ok (.new 10, 3) := by decide +kernel
theorem dX9_init_15 : decode cX9_init 15 = .ok (.dup, 1) := by decide +kernel
theorem dX9_init_16 : decode cX9_init 16 = .ok (.aload_n 1, 1) := by decide +kernel
theorem dX9_init_17 : decode cX9_init 17 = .ok (.invokespecial 12, 3) := by decide +kernel
theorem dX9_init_20 : decode cX9_init 20 = .ok (.astore_n 2, 1) := by decide +kernel
theorem dX9_init_21 : decode cX9_init 21 = .ok (.new 15, 3) := by decide +kernel
theorem dX9_init_24 : decode cX9_init 24 = .ok (.dup, 1) := by decide +kernel
theorem dX9_init_25 : decode cX9_init 25 = .ok (.invokespecial 17, 3) := by decide +kernel
theorem dX9_init_28 : decode cX9_init 28 = .ok (.astore_n 3, 1) := by decide +kernel
theorem dX9_init_29 : decode cX9_init 29 = .ok (.aload_n 0, 1) := by decide +kernel
theorem dX9_init_30 : decode cX9_init 30 = .ok (.aload_n 1, 1) := by decide +kernel
theorem dX9_init_31 : decode cX9_init 31 = .ok (.putfield 18, 3) := by decide +kernel
theorem dX9_init_34 : decode cX9_init 34 = .ok (.aload_n 0, 1) := by decide +kernel
theorem dX9_init_35 : decode cX9_init 35 = .ok (.aload_n 2, 1) := by decide +kernel
theorem dX9_init_36 : decode cX9_init 36 = .ok (.putfield 24, 3) := by decide +kernel
theorem dX9_init_39 : decode cX9_init 39 = .ok (.aload_n 0, 1) := by decide +kernel
theorem dX9_init_40 : decode cX9_init 40 = .ok (.new 28, 3) := by decide +kernel
theorem dX9_init_43 : decode cX9_init 43 = .ok (.dup, 1) := by decide +kernel
theorem dX9_init_44 : decode cX9_init 44 = .ok (.aload_n 1, 1) := by decide +kernel
theorem dX9_init_45 : decode cX9_init 45 = .ok (.aload_n 2, 1) := by decide +kernel
theorem dX9_init_46 : decode cX9_init 46 = .ok (.invokespecial 30, 3) := by decide +kernel
theorem dX9_init_49 : decode cX9_init 49 = .ok (.putfield 33, 3) := by decide +kernel
theorem dX9_init_52 : decode cX9_init 52 = .ok (.aload_n 0, 1) := by decide +kernel
theorem dX9_init_53 : decode cX9_init 53 = .ok (.new 37, 3) := by decide +kernel
theorem dX9_init_56 : decode cX9_init 56 = .ok (.dup, 1) := by decide +kernel
theorem dX9_init_57 : decode cX9_init 57 = .ok (.invokespecial 39, 3) := by decide +kernel
theorem dX9_init_60 : decode cX9_init 60 = .ok (.putfield 40, 3) := by decide +kernel
theorem dX9_init_63 : decode cX9_init 63 = .ok (.aload_n 0, 1) := by decide +kernel
theorem dX9_init_64 : decode cX9_init 64 = .ok (.new 44, 3) := by decide +kernel
theorem dX9_init_67 : decode cX9_init 67 = .ok (.dup, 1) := by decide +kernel
theorem dX9_init_68 : decode cX9_init 68 = .ok (.aload_n 2, 1) := by decide +kernel
theorem dX9_init_69 : decode cX9_init 69 = .ok (.invokespecial 46, 3) := by decide +kernel
theorem dX9_init_72 : decode cX9_init 72 = .ok (.putfield 49, 3) := by decide +kernel
theorem dX9_init_75 : decode cX9_init 75 = .ok (.aload_n 0, 1) := by decide +kernel
theorem dX9_init_76 : decode cX9_init 76 = .ok (.new 53, 3) := by decide +kernel
theorem dX9_init_79 : decode cX9_init 79 = .ok (.dup, 1) := by decide +kernel
theorem dX9_init_80 : decode cX9_init 80 = .ok (.aload_n 2, 1) := by decide +kernel
theorem dX9_init_81 : decode cX9_init 81 = .ok (.invokespecial 55, 3) := by decide +kernel
theorem dX9_init_84 : decode cX9_init 84 = .ok (.putfield 56, 3) := by decide +kernel
theorem dX9_init_87 : decode cX9_init 87 = .ok (.aload_n 0, 1) := by decide +kernel
theorem dX9_init_88 : decode cX9_init 88 = .ok (.aload_n 3, 1) := by decide +kernel
theorem dX9_init_89 : decode cX9_init 89 = .ok (.putfield 60, 3) := by decide +kernel
theorem dX9_init_92 : decode cX9_init 92 = .ok (.aload_n 0, 1) := by decide +kernel
theorem dX9_init_93 : decode cX9_init 93 = .ok (.new 64, 3) := by decide +kernel
theorem dX9_init_96 : decode cX9_init 96 = .ok (.dup, 1) := by decide +kernel
theorem dX9_init_97 : decode cX9_init 97 = .ok (.aload_n 3, 1) := by decide +kernel
theorem dX9_init_98 : decode cX9_init 98 = .ok (.invokespecial 66, 3) := by decide +kernel
theorem dX9_init_101 : decode cX9_init 101 = .ok (.putfield 69, 3) := by decide +kernel
theorem dX9_init_104 : decode cX9_init 104 = .ok (.aload_n 0, 1) := by decide +kernel
theorem dX9_init_105 : decode cX9_init 105 = .ok (.new 73, 3) := by decide +kernel
theorem dX9_init_108 : decode cX9_init 108 = .ok (.dup, 1) := by decide +kernel
theorem dX9_init_109 : decode cX9_init 109 = .ok (.invokespecial 75, 3) := by decide +kernel
theorem dX9_init_112 : decode cX9_init 112 = .ok (.putfield 76, 3) := by decide +kernel
theorem dX9_init_115 : decode cX9_init 115 = .ok (.return_, 1) := by decide +kernel
theorem dX9_form_0 : decode cX9_form 0 = .ok (.aload_n 0, 1) := by decide +kernel
theorem dX9_form_1 : decode cX9_form 1 = .ok (.getfield 18, 3) := by decide +kernel
theorem dX9_form_4 : decode cX9_form 4 = .ok (.iload_n 1, 1) := by decide +kernel
theorem dX9_form_5 : decode cX9_form 5 = .ok (.invokevirtual 80, 3) := by decide +kernel
theorem dX9_form_8 : decode cX9_form 8 = .ok (.ireturn, 1) := by decide +kernel
theorem dX9_likeness_0 : decode cX9_likeness 0 = .ok (.aload_n 0, 1) := by decide +kernel
theorem dX9_likeness_1 : decode cX9_likeness 1 = .ok (.getfield 18, 3) := by decide +kernel
theorem dX9_likeness_4 : decode cX9_likeness 4 = .ok (.iload_n 1, 1) := by decide +kernel
theorem dX9_likeness_5 : decode cX9_likeness 5 = .ok (.invokevirtual 84, 3) := by decide +kernel
theorem dX9_likeness_8 : decode cX9_likeness 8 = .ok (.ireturn, 1) := by decide +kernel
theorem dX9_sign_0 : decode cX9_sign 0 = .ok (.aload_n 0, 1) := by decide +kernel
theorem dX9_sign_1 : decode cX9_sign 1 = .ok (.getfield 18, 3) := by decide +kernel
theorem dX9_sign_4 : decode cX9_sign 4 = .ok (.iload_n 1, 1) := by decide +kernel
theorem dX9_sign_5 : decode cX9_sign 5 = .ok (.invokevirtual 87, 3) := by decide +kernel
theorem dX9_sign_8 : decode cX9_sign 8 = .ok (.ireturn, 1) := by decide +kernel
theorem dX9_signs_0 : decode cX9_signs 0 = .ok (.iload_n 1, 1) := by decide +kernel
theorem dX9_signs_1 : decode cX9_signs 1 = .ok (.tableswitch 70 0 3 #[31, 39, 54, 62], 31) := by decide +kernel
theorem dX9_signs_32 : decode cX9_signs 32 = .ok (.aload_n 0, 1) := by decide +kernel
theorem dX9_signs_33 : decode cX9_signs 33 = .ok (.getfield 18, 3) := by decide +kernel
theorem dX9_signs_36 : decode cX9_signs 36 = .ok (.invokevirtual 90, 3) := by decide +kernel
theorem dX9_signs_39 : decode cX9_signs 39 = .ok (.ireturn, 1) := by decide +kernel
theorem dX9_signs_40 : decode cX9_signs 40 = .ok (.aload_n 0, 1) := by decide +kernel
theorem dX9_signs_41 : decode cX9_signs 41 = .ok (.getfield 18, 3) := by decide +kernel
theorem dX9_signs_44 : decode cX9_signs 44 = .ok (.aload_n 0, 1) := by decide +kernel
theorem dX9_signs_45 : decode cX9_signs 45 = .ok (.getfield 18, 3) := by decide +kernel
theorem dX9_signs_48 : decode cX9_signs 48 = .ok (.invokevirtual 94, 3) := by decide +kernel
theorem dX9_signs_51 : decode cX9_signs 51 = .ok (.invokevirtual 97, 3) := by decide +kernel
theorem dX9_signs_54 : decode cX9_signs 54 = .ok (.ireturn, 1) := by decide +kernel
theorem dX9_signs_55 : decode cX9_signs 55 = .ok (.aload_n 0, 1) := by decide +kernel
theorem dX9_signs_56 : decode cX9_signs 56 = .ok (.getfield 18, 3) := by decide +kernel
theorem dX9_signs_59 : decode cX9_signs 59 = .ok (.invokevirtual 94, 3) := by decide +kernel
theorem dX9_signs_62 : decode cX9_signs 62 = .ok (.ireturn, 1) := by decide +kernel
theorem dX9_signs_63 : decode cX9_signs 63 = .ok (.aload_n 0, 1) := by decide +kernel
theorem dX9_signs_64 : decode cX9_signs 64 = .ok (.getfield 18, 3) := by decide +kernel
theorem dX9_signs_67 : decode cX9_signs 67 = .ok (.invokevirtual 100, 3) := by decide +kernel
theorem dX9_signs_70 : decode cX9_signs 70 = .ok (.ireturn, 1) := by decide +kernel
theorem dX9_signs_71 : decode cX9_signs 71 = .ok (.iconst (-1), 1) := by decide +kernel
theorem dX9_signs_72 : decode cX9_signs 72 = .ok (.ireturn, 1) := by decide +kernel
theorem dX9_text_0 : decode cX9_text 0 = .ok (.iload_n 1, 1) := by decide +kernel
theorem dX9_text_1 : decode cX9_text 1 = .ok (.invokestatic 103, 3) := by decide +kernel
theorem dX9_text_4 : decode cX9_text 4 = .ok (.ifCond .eq 23, 3) := by decide +kernel
theorem dX9_text_7 : decode cX9_text 7 = .ok (.iload_n 2, 1) := by decide +kernel
theorem dX9_text_8 : decode cX9_text 8 = .ok (.invokestatic 107, 3) := by decide +kernel
theorem dX9_text_11 : decode cX9_text 11 = .ok (.ifCond .eq 16, 3) := by decide +kernel
theorem dX9_text_14 : decode cX9_text 14 = .ok (.iload 4, 2) := by decide +kernel
theorem dX9_text_16 : decode cX9_text 16 = .ok (.iconst 1, 1) := by decide +kernel
theorem dX9_text_17 : decode cX9_text 17 = .ok (.if_icmp .lt 10, 3) := by decide +kernel
theorem dX9_text_20 : decode cX9_text 20 = .ok (.iload 4, 2) := by decide +kernel
theorem dX9_text_22 : decode cX9_text 22 = .ok (.bipush 24, 2) := by decide +kernel
theorem dX9_text_24 : decode cX9_text 24 = .ok (.if_icmp .le 5, 3) := by decide +kernel
theorem dX9_text_27 : decode cX9_text 27 = .ok (.iconst (-1), 1) := by decide +kernel
theorem dX9_text_28 : decode cX9_text 28 = .ok (.ireturn, 1) := by decide +kernel
theorem dX9_text_29 : decode cX9_text 29 = .ok (.aload_n 0, 1) := by decide +kernel
theorem dX9_text_30 : decode cX9_text 30 = .ok (.getfield 76, 3) := by decide +kernel
theorem dX9_text_33 : decode cX9_text 33 = .ok (.iload_n 1, 1) := by decide +kernel
theorem dX9_text_34 : decode cX9_text 34 = .ok (.iload_n 2, 1) := by decide +kernel
theorem dX9_text_35 : decode cX9_text 35 = .ok (.invokevirtual 110, 3) := by decide +kernel
theorem dX9_text_38 : decode cX9_text 38 = .ok (.istore 5, 2) := by decide +kernel
theorem dX9_text_40 : decode cX9_text 40 = .ok (.iload 5, 2) := by decide +kernel
theorem dX9_text_42 : decode cX9_text 42 = .ok (.ifCond .eq 9, 3) := by decide +kernel
theorem dX9_text_45 : decode cX9_text 45 = .ok (.bipush (-10), 2) := by decide +kernel
theorem dX9_text_47 : decode cX9_text 47 = .ok (.iload 5, 2) := by decide +kernel
theorem dX9_text_49 : decode cX9_text 49 = .ok (.isub, 1) := by decide +kernel
theorem dX9_text_50 : decode cX9_text 50 = .ok (.ireturn, 1) := by decide +kernel
theorem dX9_text_51 : decode cX9_text 51 = .ok (.iconst 0, 1) := by decide +kernel
theorem dX9_text_52 : decode cX9_text 52 = .ok (.istore 6, 2) := by decide +kernel
theorem dX9_text_54 : decode cX9_text 54 = .ok (.iload 6, 2) := by decide +kernel
theorem dX9_text_56 : decode cX9_text 56 = .ok (.iload 4, 2) := by decide +kernel
theorem dX9_text_58 : decode cX9_text 58 = .ok (.if_icmp .ge 57, 3) := by decide +kernel
theorem dX9_text_61 : decode cX9_text 61 = .ok (.aload_n 0, 1) := by decide +kernel
theorem dX9_text_62 : decode cX9_text 62 = .ok (.getfield 76, 3) := by decide +kernel
theorem dX9_text_65 : decode cX9_text 65 = .ok (.iload_n 1, 1) := by decide +kernel
theorem dX9_text_66 : decode cX9_text 66 = .ok (.iload_n 3, 1) := by decide +kernel
theorem dX9_text_67 : decode cX9_text 67 = .ok (.iload 6, 2) := by decide +kernel
theorem dX9_text_69 : decode cX9_text 69 = .ok (.iadd, 1) := by decide +kernel
theorem dX9_text_70 : decode cX9_text 70 = .ok (.invokevirtual 114, 3) := by decide +kernel
theorem dX9_text_73 : decode cX9_text 73 = .ok (.ifCond .ne 6, 3) := by decide +kernel
theorem dX9_text_76 : decode cX9_text 76 = .ok (.bipush (-12), 2) := by decide +kernel
theorem dX9_text_78 : decode cX9_text 78 = .ok (.ireturn, 1) := by decide +kernel
theorem dX9_text_79 : decode cX9_text 79 = .ok (.aload_n 0, 1) := by decide +kernel
theorem dX9_text_80 : decode cX9_text 80 = .ok (.getfield 24, 3) := by decide +kernel
theorem dX9_text_83 : decode cX9_text 83 = .ok (.iload 6, 2) := by decide +kernel
theorem dX9_text_85 : decode cX9_text 85 = .ok (.aload_n 0, 1) := by decide +kernel
theorem dX9_text_86 : decode cX9_text 86 = .ok (.getfield 76, 3) := by decide +kernel
theorem dX9_text_89 : decode cX9_text 89 = .ok (.iload_n 1, 1) := by decide +kernel
theorem dX9_text_90 : decode cX9_text 90 = .ok (.iload_n 3, 1) := by decide +kernel
theorem dX9_text_91 : decode cX9_text 91 = .ok (.iload 6, 2) := by decide +kernel
theorem dX9_text_93 : decode cX9_text 93 = .ok (.iadd, 1) := by decide +kernel
theorem dX9_text_94 : decode cX9_text 94 = .ok (.invokevirtual 118, 3) := by decide +kernel
theorem dX9_text_97 : decode cX9_text 97 = .ok (.invokevirtual 121, 3) := by decide +kernel
theorem dX9_text_100 : decode cX9_text 100 = .ok (.ifCond .ne 9, 3) := by decide +kernel
theorem dX9_text_103 : decode cX9_text 103 = .ok (.bipush (-20), 2) := by decide +kernel
theorem dX9_text_105 : decode cX9_text 105 = .ok (.iload 6, 2) := by decide +kernel
theorem dX9_text_107 : decode cX9_text 107 = .ok (.isub, 1) := by decide +kernel
theorem dX9_text_108 : decode cX9_text 108 = .ok (.ireturn, 1) := by decide +kernel
theorem dX9_text_109 : decode cX9_text 109 = .ok (.iinc 6 1, 3) := by decide +kernel
theorem dX9_text_112 : decode cX9_text 112 = .ok (.goto (-58), 3) := by decide +kernel
theorem dX9_text_115 : decode cX9_text 115 = .ok (.aload_n 0, 1) := by decide +kernel
theorem dX9_text_116 : decode cX9_text 116 = .ok (.getfield 24, 3) := by decide +kernel
theorem dX9_text_119 : decode cX9_text 119 = .ok (.iload 4, 2) := by decide +kernel
theorem dX9_text_121 : decode cX9_text 121 = .ok (.invokevirtual 124, 3) := by decide +kernel
theorem dX9_text_124 : decode cX9_text 124 = .ok (.ireturn, 1) := by decide +kernel
theorem dX9_drop_0 : decode cX9_drop 0 = .ok (.aload_n 0, 1) := by decide +kernel
theorem dX9_drop_1 : decode cX9_drop 1 = .ok (.getfield 24, 3) := by decide +kernel
theorem dX9_drop_4 : decode cX9_drop 4 = .ok (.invokevirtual 127, 3) := by decide +kernel
theorem dX9_drop_7 : decode cX9_drop 7 = .ok (.ireturn, 1) := by decide +kernel
theorem dX9_textOf_0 : decode cX9_textOf 0 = .ok (.aload_n 0, 1) := by decide +kernel
theorem dX9_textOf_1 : decode cX9_textOf 1 = .ok (.getfield 24, 3) := by decide +kernel
theorem dX9_textOf_4 : decode cX9_textOf 4 = .ok (.iload_n 1, 1) := by decide +kernel
theorem dX9_textOf_5 : decode cX9_textOf 5 = .ok (.iload_n 2, 1) := by decide +kernel
theorem dX9_textOf_6 : decode cX9_textOf 6 = .ok (.invokevirtual 130, 3) := by decide +kernel
theorem dX9_textOf_9 : decode cX9_textOf 9 = .ok (.ireturn, 1) := by decide +kernel
theorem dX9_counted_0 : decode cX9_counted 0 = .ok (.aload_n 0, 1) := by decide +kernel
theorem dX9_counted_1 : decode cX9_counted 1 = .ok (.getfield 18, 3) := by decide +kernel
theorem dX9_counted_4 : decode cX9_counted 4 = .ok (.iload_n 1, 1) := by decide +kernel
theorem dX9_counted_5 : decode cX9_counted 5 = .ok (.invokevirtual 133, 3) := by decide +kernel
theorem dX9_counted_8 : decode cX9_counted 8 = .ok (.ifCond .eq 14, 3) := by decide +kernel
theorem dX9_counted_11 : decode cX9_counted 11 = .ok (.aload_n 0, 1) := by decide +kernel
theorem dX9_counted_12 : decode cX9_counted 12 = .ok (.getfield 24, 3) := by decide +kernel
theorem dX9_counted_15 : decode cX9_counted 15 = .ok (.iload_n 1, 1) := by decide +kernel
theorem dX9_counted_16 : decode cX9_counted 16 = .ok (.invokevirtual 136, 3) := by decide +kernel
theorem dX9_counted_19 : decode cX9_counted 19 = .ok (.goto 4, 3) := by decide +kernel
theorem dX9_counted_22 : decode cX9_counted 22 = .ok (.iconst (-1), 1) := by decide +kernel
theorem dX9_counted_23 : decode cX9_counted 23 = .ok (.ireturn, 1) := by decide +kernel
theorem dX9_beside_0 : decode cX9_beside 0 = .ok (.aload_n 0, 1) := by decide +kernel
theorem dX9_beside_1 : decode cX9_beside 1 = .ok (.getfield 18, 3) := by decide +kernel
theorem dX9_beside_4 : decode cX9_beside 4 = .ok (.iload_n 1, 1) := by decide +kernel
theorem dX9_beside_5 : decode cX9_beside 5 = .ok (.invokevirtual 133, 3) := by decide +kernel
theorem dX9_beside_8 : decode cX9_beside 8 = .ok (.ifCond .eq 26, 3) := by decide +kernel
theorem dX9_beside_11 : decode cX9_beside 11 = .ok (.aload_n 0, 1) := by decide +kernel
theorem dX9_beside_12 : decode cX9_beside 12 = .ok (.getfield 18, 3) := by decide +kernel
theorem dX9_beside_15 : decode cX9_beside 15 = .ok (.iload_n 2, 1) := by decide +kernel
theorem dX9_beside_16 : decode cX9_beside 16 = .ok (.invokevirtual 133, 3) := by decide +kernel
theorem dX9_beside_19 : decode cX9_beside 19 = .ok (.ifCond .eq 15, 3) := by decide +kernel
theorem dX9_beside_22 : decode cX9_beside 22 = .ok (.aload_n 0, 1) := by decide +kernel
theorem dX9_beside_23 : decode cX9_beside 23 = .ok (.getfield 24, 3) := by decide +kernel
theorem dX9_beside_26 : decode cX9_beside 26 = .ok (.iload_n 1, 1) := by decide +kernel
theorem dX9_beside_27 : decode cX9_beside 27 = .ok (.iload_n 2, 1) := by decide +kernel
theorem dX9_beside_28 : decode cX9_beside 28 = .ok (.invokevirtual 139, 3) := by decide +kernel
theorem dX9_beside_31 : decode cX9_beside 31 = .ok (.goto 4, 3) := by decide +kernel
theorem dX9_beside_34 : decode cX9_beside 34 = .ok (.iconst (-1), 1) := by decide +kernel
theorem dX9_beside_35 : decode cX9_beside 35 = .ok (.ireturn, 1) := by decide +kernel
theorem dX9_chance_0 : decode cX9_chance 0 = .ok (.aload_n 0, 1) := by decide +kernel
theorem dX9_chance_1 : decode cX9_chance 1 = .ok (.getfield 18, 3) := by decide +kernel
theorem dX9_chance_4 : decode cX9_chance 4 = .ok (.iload_n 1, 1) := by decide +kernel
theorem dX9_chance_5 : decode cX9_chance 5 = .ok (.invokevirtual 133, 3) := by decide +kernel
theorem dX9_chance_8 : decode cX9_chance 8 = .ok (.ifCond .eq 23, 3) := by decide +kernel
theorem dX9_chance_11 : decode cX9_chance 11 = .ok (.aload_n 0, 1) := by decide +kernel
theorem dX9_chance_12 : decode cX9_chance 12 = .ok (.getfield 18, 3) := by decide +kernel
theorem dX9_chance_15 : decode cX9_chance 15 = .ok (.iload_n 2, 1) := by decide +kernel
theorem dX9_chance_16 : decode cX9_chance 16 = .ok (.invokevirtual 133, 3) := by decide +kernel
theorem dX9_chance_19 : decode cX9_chance 19 = .ok (.ifCond .eq 12, 3) := by decide +kernel
theorem dX9_chance_22 : decode cX9_chance 22 = .ok (.iload_n 3, 1) := by decide +kernel
theorem dX9_chance_23 : decode cX9_chance 23 = .ok (.ifCond .lt 8, 3) := by decide +kernel
theorem dX9_chance_26 : decode cX9_chance 26 = .ok (.iload_n 3, 1) := by decide +kernel
theorem dX9_chance_27 : decode cX9_chance 27 = .ok (.iconst 1, 1) := by decide +kernel
theorem dX9_chance_28 : decode cX9_chance 28 = .ok (.if_icmp .le 7, 3) := by decide +kernel
theorem dX9_chance_31 : decode cX9_chance 31 = .ok (.ldc2_w 142, 3) := by decide +kernel
theorem dX9_chance_34 : decode cX9_chance 34 = .ok (.lreturn, 1) := by decide +kernel
theorem dX9_chance_35 : decode cX9_chance 35 = .ok (.aload_n 0, 1) := by decide +kernel
theorem dX9_chance_36 : decode cX9_chance 36 = .ok (.getfield 24, 3) := by decide +kernel
theorem dX9_chance_39 : decode cX9_chance 39 = .ok (.iload_n 1, 1) := by decide +kernel
theorem dX9_chance_40 : decode cX9_chance 40 = .ok (.iload_n 2, 1) := by decide +kernel
theorem dX9_chance_41 : decode cX9_chance 41 = .ok (.invokevirtual 144, 3) := by decide +kernel
theorem dX9_chance_44 : decode cX9_chance 44 = .ok (.lstore 4, 2) := by decide +kernel
theorem dX9_chance_46 : decode cX9_chance 46 = .ok (.aload_n 0, 1) := by decide +kernel
theorem dX9_chance_47 : decode cX9_chance 47 = .ok (.getfield 24, 3) := by decide +kernel
theorem dX9_chance_50 : decode cX9_chance 50 = .ok (.invokevirtual 148, 3) := by decide +kernel
theorem dX9_chance_53 : decode cX9_chance 53 = .ok (.lstore 6, 2) := by decide +kernel
theorem dX9_chance_55 : decode cX9_chance 55 = .ok (.lload 4, 2) := by decide +kernel
theorem dX9_chance_57 : decode cX9_chance 57 = .ok (.lload 6, 2) := by decide +kernel
theorem dX9_chance_59 : decode cX9_chance 59 = .ok (.invokestatic 152, 3) := by decide +kernel
theorem dX9_chance_62 : decode cX9_chance 62 = .ok (.lstore 8, 2) := by decide +kernel
theorem dX9_chance_64 : decode cX9_chance 64 = .ok (.lload 8, 2) := by decide +kernel
theorem dX9_chance_66 : decode cX9_chance 66 = .ok (.lconst 1, 1) := by decide +kernel
theorem dX9_chance_67 : decode cX9_chance 67 = .ok (.lcmp, 1) := by decide +kernel
theorem dX9_chance_68 : decode cX9_chance 68 = .ok (.ifCond .ge 7, 3) := by decide +kernel
theorem dX9_chance_71 : decode cX9_chance 71 = .ok (.ldc2_w 142, 3) := by decide +kernel
theorem dX9_chance_74 : decode cX9_chance 74 = .ok (.lreturn, 1) := by decide +kernel
theorem dX9_chance_75 : decode cX9_chance 75 = .ok (.iload_n 3, 1) := by decide +kernel
theorem dX9_chance_76 : decode cX9_chance 76 = .ok (.ifCond .ne 8, 3) := by decide +kernel
theorem dX9_chance_79 : decode cX9_chance 79 = .ok (.lload 4, 2) := by decide +kernel
theorem dX9_chance_81 : decode cX9_chance 81 = .ok (.goto 5, 3) := by decide +kernel
theorem dX9_chance_84 : decode cX9_chance 84 = .ok (.lload 6, 2) := by decide +kernel
theorem dX9_chance_86 : decode cX9_chance 86 = .ok (.lload 8, 2) := by decide +kernel
theorem dX9_chance_88 : decode cX9_chance 88 = .ok (.ldiv, 1) := by decide +kernel
theorem dX9_chance_89 : decode cX9_chance 89 = .ok (.lreturn, 1) := by decide +kernel
theorem dX9_runs_0 : decode cX9_runs 0 = .ok (.iload_n 1, 1) := by decide +kernel
theorem dX9_runs_1 : decode cX9_runs 1 = .ok (.tableswitch 65 0 2 #[27, 47, 56], 27) := by decide +kernel
theorem dX9_runs_28 : decode cX9_runs 28 = .ok (.aload_n 0, 1) := by decide +kernel
theorem dX9_runs_29 : decode cX9_runs 29 = .ok (.getfield 24, 3) := by decide +kernel
theorem dX9_runs_32 : decode cX9_runs 32 = .ok (.iconst 1, 1) := by decide +kernel
theorem dX9_runs_33 : decode cX9_runs 33 = .ok (.invokevirtual 156, 3) := by decide +kernel
theorem dX9_runs_36 : decode cX9_runs 36 = .ok (.aload_n 0, 1) := by decide +kernel
theorem dX9_runs_37 : decode cX9_runs 37 = .ok (.getfield 24, 3) := by decide +kernel
theorem dX9_runs_40 : decode cX9_runs 40 = .ok (.iconst 0, 1) := by decide +kernel
theorem dX9_runs_41 : decode cX9_runs 41 = .ok (.invokevirtual 156, 3) := by decide +kernel
theorem dX9_runs_44 : decode cX9_runs 44 = .ok (.invokestatic 160, 3) := by decide +kernel
theorem dX9_runs_47 : decode cX9_runs 47 = .ok (.ireturn, 1) := by decide +kernel
theorem dX9_runs_48 : decode cX9_runs 48 = .ok (.aload_n 0, 1) := by decide +kernel
theorem dX9_runs_49 : decode cX9_runs 49 = .ok (.getfield 24, 3) := by decide +kernel
theorem dX9_runs_52 : decode cX9_runs 52 = .ok (.iconst 0, 1) := by decide +kernel
theorem dX9_runs_53 : decode cX9_runs 53 = .ok (.invokevirtual 156, 3) := by decide +kernel
theorem dX9_runs_56 : decode cX9_runs 56 = .ok (.ireturn, 1) := by decide +kernel
theorem dX9_runs_57 : decode cX9_runs 57 = .ok (.aload_n 0, 1) := by decide +kernel
theorem dX9_runs_58 : decode cX9_runs 58 = .ok (.getfield 24, 3) := by decide +kernel
theorem dX9_runs_61 : decode cX9_runs 61 = .ok (.iconst 1, 1) := by decide +kernel
theorem dX9_runs_62 : decode cX9_runs 62 = .ok (.invokevirtual 156, 3) := by decide +kernel
theorem dX9_runs_65 : decode cX9_runs 65 = .ok (.ireturn, 1) := by decide +kernel
theorem dX9_runs_66 : decode cX9_runs 66 = .ok (.bipush (-10), 2) := by decide +kernel
theorem dX9_runs_68 : decode cX9_runs 68 = .ok (.ireturn, 1) := by decide +kernel
theorem dX9_akin_0 : decode cX9_akin 0 = .ok (.aload_n 0, 1) := by decide +kernel
theorem dX9_akin_1 : decode cX9_akin 1 = .ok (.getfield 18, 3) := by decide +kernel
theorem dX9_akin_4 : decode cX9_akin 4 = .ok (.iload_n 1, 1) := by decide +kernel
theorem dX9_akin_5 : decode cX9_akin 5 = .ok (.invokevirtual 133, 3) := by decide +kernel
theorem dX9_akin_8 : decode cX9_akin 8 = .ok (.ifCond .eq 31, 3) := by decide +kernel
theorem dX9_akin_11 : decode cX9_akin 11 = .ok (.aload_n 0, 1) := by decide +kernel
theorem dX9_akin_12 : decode cX9_akin 12 = .ok (.getfield 18, 3) := by decide +kernel
theorem dX9_akin_15 : decode cX9_akin 15 = .ok (.iload_n 2, 1) := by decide +kernel
theorem dX9_akin_16 : decode cX9_akin 16 = .ok (.invokevirtual 133, 3) := by decide +kernel
theorem dX9_akin_19 : decode cX9_akin 19 = .ok (.ifCond .eq 20, 3) := by decide +kernel
theorem dX9_akin_22 : decode cX9_akin 22 = .ok (.iload_n 1, 1) := by decide +kernel
theorem dX9_akin_23 : decode cX9_akin 23 = .ok (.iload_n 2, 1) := by decide +kernel
theorem dX9_akin_24 : decode cX9_akin 24 = .ok (.if_icmp .eq 15, 3) := by decide +kernel
theorem dX9_akin_27 : decode cX9_akin 27 = .ok (.aload_n 0, 1) := by decide +kernel
theorem dX9_akin_28 : decode cX9_akin 28 = .ok (.getfield 33, 3) := by decide +kernel
theorem dX9_akin_31 : decode cX9_akin 31 = .ok (.iload_n 1, 1) := by decide +kernel
theorem dX9_akin_32 : decode cX9_akin 32 = .ok (.iload_n 2, 1) := by decide +kernel
theorem dX9_akin_33 : decode cX9_akin 33 = .ok (.invokevirtual 165, 3) := by decide +kernel
theorem dX9_akin_36 : decode cX9_akin 36 = .ok (.goto 4, 3) := by decide +kernel
theorem dX9_akin_39 : decode cX9_akin 39 = .ok (.iconst (-1), 1) := by decide +kernel
theorem dX9_akin_40 : decode cX9_akin 40 = .ok (.ireturn, 1) := by decide +kernel
theorem dX9_apart_0 : decode cX9_apart 0 = .ok (.aload_n 0, 1) := by decide +kernel
theorem dX9_apart_1 : decode cX9_apart 1 = .ok (.getfield 33, 3) := by decide +kernel
theorem dX9_apart_4 : decode cX9_apart 4 = .ok (.iload_n 1, 1) := by decide +kernel
theorem dX9_apart_5 : decode cX9_apart 5 = .ok (.iload_n 2, 1) := by decide +kernel
theorem dX9_apart_6 : decode cX9_apart 6 = .ok (.iload_n 3, 1) := by decide +kernel
theorem dX9_apart_7 : decode cX9_apart 7 = .ok (.invokevirtual 168, 3) := by decide +kernel
theorem dX9_apart_10 : decode cX9_apart 10 = .ok (.ireturn, 1) := by decide +kernel
theorem dX9_grid_0 : decode cX9_grid 0 = .ok (.iload_n 1, 1) := by decide +kernel
theorem dX9_grid_1 : decode cX9_grid 1 = .ok (.iconst 1, 1) := by decide +kernel
theorem dX9_grid_2 : decode cX9_grid 2 = .ok (.if_icmp .lt 20, 3) := by decide +kernel
theorem dX9_grid_5 : decode cX9_grid 5 = .ok (.iload_n 1, 1) := by decide +kernel
theorem dX9_grid_6 : decode cX9_grid 6 = .ok (.iconst 3, 1) := by decide +kernel
theorem dX9_grid_7 : decode cX9_grid 7 = .ok (.if_icmp .gt 15, 3) := by decide +kernel
theorem dX9_grid_10 : decode cX9_grid 10 = .ok (.aload_n 0, 1) := by decide +kernel
theorem dX9_grid_11 : decode cX9_grid 11 = .ok (.getfield 33, 3) := by decide +kernel
theorem dX9_grid_14 : decode cX9_grid 14 = .ok (.iload_n 1, 1) := by decide +kernel
theorem dX9_grid_15 : decode cX9_grid 15 = .ok (.iload_n 2, 1) := by decide +kernel
theorem dX9_grid_16 : decode cX9_grid 16 = .ok (.invokevirtual 172, 3) := by decide +kernel
theorem dX9_grid_19 : decode cX9_grid 19 = .ok (.goto 4, 3) := by decide +kernel
theorem dX9_grid_22 : decode cX9_grid 22 = .ok (.iconst (-1), 1) := by decide +kernel
theorem dX9_grid_23 : decode cX9_grid 23 = .ok (.ireturn, 1) := by decide +kernel
theorem dX9_account_0 : decode cX9_account 0 = .ok (.aload_n 0, 1) := by decide +kernel
theorem dX9_account_1 : decode cX9_account 1 = .ok (.getfield 40, 3) := by decide +kernel
theorem dX9_account_4 : decode cX9_account 4 = .ok (.iload_n 1, 1) := by decide +kernel
theorem dX9_account_5 : decode cX9_account 5 = .ok (.iload_n 2, 1) := by decide +kernel
theorem dX9_account_6 : decode cX9_account 6 = .ok (.invokevirtual 173, 3) := by decide +kernel
theorem dX9_account_9 : decode cX9_account 9 = .ok (.ireturn, 1) := by decide +kernel
theorem dX9_values_0 : decode cX9_values 0 = .ok (.aload_n 0, 1) := by decide +kernel
theorem dX9_values_1 : decode cX9_values 1 = .ok (.getfield 40, 3) := by decide +kernel
theorem dX9_values_4 : decode cX9_values 4 = .ok (.iload_n 1, 1) := by decide +kernel
theorem dX9_values_5 : decode cX9_values 5 = .ok (.invokevirtual 175, 3) := by decide +kernel
theorem dX9_values_8 : decode cX9_values 8 = .ok (.ireturn, 1) := by decide +kernel
theorem dX9_sure_0 : decode cX9_sure 0 = .ok (.aload_n 0, 1) := by decide +kernel
theorem dX9_sure_1 : decode cX9_sure 1 = .ok (.getfield 40, 3) := by decide +kernel
theorem dX9_sure_4 : decode cX9_sure 4 = .ok (.iload_n 1, 1) := by decide +kernel
theorem dX9_sure_5 : decode cX9_sure 5 = .ok (.invokevirtual 178, 3) := by decide +kernel
theorem dX9_sure_8 : decode cX9_sure 8 = .ok (.ireturn, 1) := by decide +kernel
theorem dX9_name_0 : decode cX9_name 0 = .ok (.aload_n 0, 1) := by decide +kernel
theorem dX9_name_1 : decode cX9_name 1 = .ok (.getfield 49, 3) := by decide +kernel
theorem dX9_name_4 : decode cX9_name 4 = .ok (.iload_n 1, 1) := by decide +kernel
theorem dX9_name_5 : decode cX9_name 5 = .ok (.iload_n 2, 1) := by decide +kernel
theorem dX9_name_6 : decode cX9_name 6 = .ok (.invokevirtual 181, 3) := by decide +kernel
theorem dX9_name_9 : decode cX9_name 9 = .ok (.ireturn, 1) := by decide +kernel
theorem dX9_dragged_0 : decode cX9_dragged 0 = .ok (.aload_n 0, 1) := by decide +kernel
theorem dX9_dragged_1 : decode cX9_dragged 1 = .ok (.getfield 49, 3) := by decide +kernel
theorem dX9_dragged_4 : decode cX9_dragged 4 = .ok (.iload_n 1, 1) := by decide +kernel
theorem dX9_dragged_5 : decode cX9_dragged 5 = .ok (.iload_n 2, 1) := by decide +kernel
theorem dX9_dragged_6 : decode cX9_dragged 6 = .ok (.iload_n 3, 1) := by decide +kernel
theorem dX9_dragged_7 : decode cX9_dragged 7 = .ok (.invokevirtual 182, 3) := by decide +kernel
theorem dX9_dragged_10 : decode cX9_dragged 10 = .ok (.ireturn, 1) := by decide +kernel
theorem dX9_together_0 : decode cX9_together 0 = .ok (.aload_n 0, 1) := by decide +kernel
theorem dX9_together_1 : decode cX9_together 1 = .ok (.getfield 49, 3) := by decide +kernel
theorem dX9_together_4 : decode cX9_together 4 = .ok (.iload_n 1, 1) := by decide +kernel
theorem dX9_together_5 : decode cX9_together 5 = .ok (.iload_n 2, 1) := by decide +kernel
theorem dX9_together_6 : decode cX9_together 6 = .ok (.iload_n 3, 1) := by decide +kernel
theorem dX9_together_7 : decode cX9_together 7 = .ok (.iload 4, 2) := by decide +kernel
theorem dX9_together_9 : decode cX9_together 9 = .ok (.invokevirtual 185, 3) := by decide +kernel
theorem dX9_together_12 : decode cX9_together 12 = .ok (.ireturn, 1) := by decide +kernel
theorem dX9_word_0 : decode cX9_word 0 = .ok (.aload_n 0, 1) := by decide +kernel
theorem dX9_word_1 : decode cX9_word 1 = .ok (.getfield 56, 3) := by decide +kernel
theorem dX9_word_4 : decode cX9_word 4 = .ok (.iload_n 1, 1) := by decide +kernel
theorem dX9_word_5 : decode cX9_word 5 = .ok (.iload_n 2, 1) := by decide +kernel
theorem dX9_word_6 : decode cX9_word 6 = .ok (.invokevirtual 189, 3) := by decide +kernel
theorem dX9_word_9 : decode cX9_word 9 = .ok (.ireturn, 1) := by decide +kernel
theorem dX9_tabled_0 : decode cX9_tabled 0 = .ok (.aload_n 0, 1) := by decide +kernel
theorem dX9_tabled_1 : decode cX9_tabled 1 = .ok (.getfield 56, 3) := by decide +kernel
theorem dX9_tabled_4 : decode cX9_tabled 4 = .ok (.iload_n 1, 1) := by decide +kernel
theorem dX9_tabled_5 : decode cX9_tabled 5 = .ok (.invokevirtual 190, 3) := by decide +kernel
theorem dX9_tabled_8 : decode cX9_tabled 8 = .ok (.ireturn, 1) := by decide +kernel
theorem dX9_read_0 : decode cX9_read 0 = .ok (.aload_n 0, 1) := by decide +kernel
theorem dX9_read_1 : decode cX9_read 1 = .ok (.getfield 56, 3) := by decide +kernel
theorem dX9_read_4 : decode cX9_read 4 = .ok (.iload_n 1, 1) := by decide +kernel
theorem dX9_read_5 : decode cX9_read 5 = .ok (.iload_n 2, 1) := by decide +kernel
theorem dX9_read_6 : decode cX9_read 6 = .ok (.invokevirtual 193, 3) := by decide +kernel
theorem dX9_read_9 : decode cX9_read 9 = .ok (.ireturn, 1) := by decide +kernel
theorem dX9_best_0 : decode cX9_best 0 = .ok (.aload_n 0, 1) := by decide +kernel
theorem dX9_best_1 : decode cX9_best 1 = .ok (.getfield 56, 3) := by decide +kernel
theorem dX9_best_4 : decode cX9_best 4 = .ok (.iload_n 1, 1) := by decide +kernel
theorem dX9_best_5 : decode cX9_best 5 = .ok (.iload_n 2, 1) := by decide +kernel
theorem dX9_best_6 : decode cX9_best 6 = .ok (.invokevirtual 196, 3) := by decide +kernel
theorem dX9_best_9 : decode cX9_best 9 = .ok (.ireturn, 1) := by decide +kernel
theorem dX9_judge_0 : decode cX9_judge 0 = .ok (.aload_n 0, 1) := by decide +kernel
theorem dX9_judge_1 : decode cX9_judge 1 = .ok (.getfield 56, 3) := by decide +kernel
theorem dX9_judge_4 : decode cX9_judge 4 = .ok (.iload_n 1, 1) := by decide +kernel
theorem dX9_judge_5 : decode cX9_judge 5 = .ok (.iload_n 2, 1) := by decide +kernel
theorem dX9_judge_6 : decode cX9_judge 6 = .ok (.iload_n 3, 1) := by decide +kernel
theorem dX9_judge_7 : decode cX9_judge 7 = .ok (.invokevirtual 199, 3) := by decide +kernel
theorem dX9_judge_10 : decode cX9_judge 10 = .ok (.ireturn, 1) := by decide +kernel
theorem dX9_feed_0 : decode cX9_feed 0 = .ok (.aload_n 0, 1) := by decide +kernel
theorem dX9_feed_1 : decode cX9_feed 1 = .ok (.getfield 60, 3) := by decide +kernel
theorem dX9_feed_4 : decode cX9_feed 4 = .ok (.lload_n 1, 1) := by decide +kernel
theorem dX9_feed_5 : decode cX9_feed 5 = .ok (.invokevirtual 202, 3) := by decide +kernel
theorem dX9_feed_8 : decode cX9_feed 8 = .ok (.ireturn, 1) := by decide +kernel
theorem dX9_end_0 : decode cX9_end 0 = .ok (.aload_n 0, 1) := by decide +kernel
theorem dX9_end_1 : decode cX9_end 1 = .ok (.getfield 60, 3) := by decide +kernel
theorem dX9_end_4 : decode cX9_end 4 = .ok (.iload_n 1, 1) := by decide +kernel
theorem dX9_end_5 : decode cX9_end 5 = .ok (.invokevirtual 206, 3) := by decide +kernel
theorem dX9_end_8 : decode cX9_end 8 = .ok (.ireturn, 1) := by decide +kernel
theorem dX9_claims_0 : decode cX9_claims 0 = .ok (.aload_n 0, 1) := by decide +kernel
theorem dX9_claims_1 : decode cX9_claims 1 = .ok (.getfield 69, 3) := by decide +kernel
theorem dX9_claims_4 : decode cX9_claims 4 = .ok (.invokevirtual 209, 3) := by decide +kernel
theorem dX9_claims_7 : decode cX9_claims 7 = .ok (.ireturn, 1) := by decide +kernel
theorem dX9_fault_0 : decode cX9_fault 0 = .ok (.aload_n 0, 1) := by decide +kernel
theorem dX9_fault_1 : decode cX9_fault 1 = .ok (.getfield 69, 3) := by decide +kernel
theorem dX9_fault_4 : decode cX9_fault 4 = .ok (.invokevirtual 212, 3) := by decide +kernel
theorem dX9_fault_7 : decode cX9_fault 7 = .ok (.ireturn, 1) := by decide +kernel
theorem dX9_claim_0 : decode cX9_claim 0 = .ok (.aload_n 0, 1) := by decide +kernel
theorem dX9_claim_1 : decode cX9_claim 1 = .ok (.getfield 69, 3) := by decide +kernel
theorem dX9_claim_4 : decode cX9_claim 4 = .ok (.iload_n 1, 1) := by decide +kernel
theorem dX9_claim_5 : decode cX9_claim 5 = .ok (.iload_n 2, 1) := by decide +kernel
theorem dX9_claim_6 : decode cX9_claim 6 = .ok (.invokevirtual 215, 3) := by decide +kernel
theorem dX9_claim_9 : decode cX9_claim 9 = .ok (.ireturn, 1) := by decide +kernel
theorem dX9_withdraw_0 : decode cX9_withdraw 0 = .ok (.aload_n 0, 1) := by decide +kernel
theorem dX9_withdraw_1 : decode cX9_withdraw 1 = .ok (.getfield 69, 3) := by decide +kernel
theorem dX9_withdraw_4 : decode cX9_withdraw 4 = .ok (.iload_n 1, 1) := by decide +kernel
theorem dX9_withdraw_5 : decode cX9_withdraw 5 = .ok (.invokevirtual 216, 3) := by decide +kernel
theorem dX9_withdraw_8 : decode cX9_withdraw 8 = .ok (.ireturn, 1) := by decide +kernel
theorem dX9_day_0 : decode cX9_day 0 = .ok (.aload_n 0, 1) := by decide +kernel
theorem dX9_day_1 : decode cX9_day 1 = .ok (.getfield 69, 3) := by decide +kernel
theorem dX9_day_4 : decode cX9_day 4 = .ok (.iload_n 1, 1) := by decide +kernel
theorem dX9_day_5 : decode cX9_day 5 = .ok (.invokevirtual 219, 3) := by decide +kernel
theorem dX9_day_8 : decode cX9_day 8 = .ok (.ireturn, 1) := by decide +kernel
theorem dX9_known_0 : decode cX9_known 0 = .ok (.aload_n 0, 1) := by decide +kernel
theorem dX9_known_1 : decode cX9_known 1 = .ok (.getfield 69, 3) := by decide +kernel
theorem dX9_known_4 : decode cX9_known 4 = .ok (.iload_n 1, 1) := by decide +kernel
theorem dX9_known_5 : decode cX9_known 5 = .ok (.iload_n 2, 1) := by decide +kernel
theorem dX9_known_6 : decode cX9_known 6 = .ok (.invokevirtual 222, 3) := by decide +kernel
theorem dX9_known_9 : decode cX9_known 9 = .ok (.ireturn, 1) := by decide +kernel
theorem dX9_sheet_0 : decode cX9_sheet 0 = .ok (.aload_n 0, 1) := by decide +kernel
theorem dX9_sheet_1 : decode cX9_sheet 1 = .ok (.getfield 76, 3) := by decide +kernel
theorem dX9_sheet_4 : decode cX9_sheet 4 = .ok (.iload_n 1, 1) := by decide +kernel
theorem dX9_sheet_5 : decode cX9_sheet 5 = .ok (.iload_n 2, 1) := by decide +kernel
theorem dX9_sheet_6 : decode cX9_sheet 6 = .ok (.iload_n 3, 1) := by decide +kernel
theorem dX9_sheet_7 : decode cX9_sheet 7 = .ok (.invokevirtual 225, 3) := by decide +kernel
theorem dX9_sheet_10 : decode cX9_sheet 10 = .ok (.ireturn, 1) := by decide +kernel
theorem dX9_lay_0 : decode cX9_lay 0 = .ok (.aload_n 0, 1) := by decide +kernel
theorem dX9_lay_1 : decode cX9_lay 1 = .ok (.getfield 76, 3) := by decide +kernel
theorem dX9_lay_4 : decode cX9_lay 4 = .ok (.iload_n 1, 1) := by decide +kernel
theorem dX9_lay_5 : decode cX9_lay 5 = .ok (.iload_n 2, 1) := by decide +kernel
theorem dX9_lay_6 : decode cX9_lay 6 = .ok (.iload_n 3, 1) := by decide +kernel
theorem dX9_lay_7 : decode cX9_lay 7 = .ok (.invokevirtual 228, 3) := by decide +kernel
theorem dX9_lay_10 : decode cX9_lay 10 = .ok (.ireturn, 1) := by decide +kernel
theorem dX9_count_0 : decode cX9_count 0 = .ok (.iload_n 1, 1) := by decide +kernel
theorem dX9_count_1 : decode cX9_count 1 = .ok (.tableswitch 148 0 10 #[59, 67, 75, 83, 91, 99, 107, 115, 123, 131, 139], 59) := by decide +kernel
theorem dX9_count_60 : decode cX9_count 60 = .ok (.aload_n 0, 1) := by decide +kernel
theorem dX9_count_61 : decode cX9_count 61 = .ok (.getfield 18, 3) := by decide +kernel
theorem dX9_count_64 : decode cX9_count 64 = .ok (.invokevirtual 231, 3) := by decide +kernel
theorem dX9_count_67 : decode cX9_count 67 = .ok (.ireturn, 1) := by decide +kernel
theorem dX9_count_68 : decode cX9_count 68 = .ok (.aload_n 0, 1) := by decide +kernel
theorem dX9_count_69 : decode cX9_count 69 = .ok (.getfield 24, 3) := by decide +kernel
theorem dX9_count_72 : decode cX9_count 72 = .ok (.invokevirtual 234, 3) := by decide +kernel
theorem dX9_count_75 : decode cX9_count 75 = .ok (.ireturn, 1) := by decide +kernel
theorem dX9_count_76 : decode cX9_count 76 = .ok (.aload_n 0, 1) := by decide +kernel
theorem dX9_count_77 : decode cX9_count 77 = .ok (.getfield 24, 3) := by decide +kernel
theorem dX9_count_80 : decode cX9_count 80 = .ok (.invokevirtual 235, 3) := by decide +kernel
theorem dX9_count_83 : decode cX9_count 83 = .ok (.ireturn, 1) := by decide +kernel
theorem dX9_count_84 : decode cX9_count 84 = .ok (.aload_n 0, 1) := by decide +kernel
theorem dX9_count_85 : decode cX9_count 85 = .ok (.getfield 40, 3) := by decide +kernel
theorem dX9_count_88 : decode cX9_count 88 = .ok (.invokevirtual 238, 3) := by decide +kernel
theorem dX9_count_91 : decode cX9_count 91 = .ok (.ireturn, 1) := by decide +kernel
theorem dX9_count_92 : decode cX9_count 92 = .ok (.aload_n 0, 1) := by decide +kernel
theorem dX9_count_93 : decode cX9_count 93 = .ok (.getfield 49, 3) := by decide +kernel
theorem dX9_count_96 : decode cX9_count 96 = .ok (.invokevirtual 239, 3) := by decide +kernel
theorem dX9_count_99 : decode cX9_count 99 = .ok (.ireturn, 1) := by decide +kernel
theorem dX9_count_100 : decode cX9_count 100 = .ok (.aload_n 0, 1) := by decide +kernel
theorem dX9_count_101 : decode cX9_count 101 = .ok (.getfield 56, 3) := by decide +kernel
theorem dX9_count_104 : decode cX9_count 104 = .ok (.invokevirtual 240, 3) := by decide +kernel
theorem dX9_count_107 : decode cX9_count 107 = .ok (.ireturn, 1) := by decide +kernel
theorem dX9_count_108 : decode cX9_count 108 = .ok (.aload_n 0, 1) := by decide +kernel
theorem dX9_count_109 : decode cX9_count 109 = .ok (.getfield 69, 3) := by decide +kernel
theorem dX9_count_112 : decode cX9_count 112 = .ok (.invokevirtual 241, 3) := by decide +kernel
theorem dX9_count_115 : decode cX9_count 115 = .ok (.ireturn, 1) := by decide +kernel
theorem dX9_count_116 : decode cX9_count 116 = .ok (.aload_n 0, 1) := by decide +kernel
theorem dX9_count_117 : decode cX9_count 117 = .ok (.getfield 69, 3) := by decide +kernel
theorem dX9_count_120 : decode cX9_count 120 = .ok (.invokevirtual 242, 3) := by decide +kernel
theorem dX9_count_123 : decode cX9_count 123 = .ok (.ireturn, 1) := by decide +kernel
theorem dX9_count_124 : decode cX9_count 124 = .ok (.aload_n 0, 1) := by decide +kernel
theorem dX9_count_125 : decode cX9_count 125 = .ok (.getfield 69, 3) := by decide +kernel
theorem dX9_count_128 : decode cX9_count 128 = .ok (.invokevirtual 245, 3) := by decide +kernel
theorem dX9_count_131 : decode cX9_count 131 = .ok (.ireturn, 1) := by decide +kernel
theorem dX9_count_132 : decode cX9_count 132 = .ok (.aload_n 0, 1) := by decide +kernel
theorem dX9_count_133 : decode cX9_count 133 = .ok (.getfield 60, 3) := by decide +kernel
theorem dX9_count_136 : decode cX9_count 136 = .ok (.invokevirtual 248, 3) := by decide +kernel
theorem dX9_count_139 : decode cX9_count 139 = .ok (.ireturn, 1) := by decide +kernel
theorem dX9_count_140 : decode cX9_count 140 = .ok (.aload_n 0, 1) := by decide +kernel
theorem dX9_count_141 : decode cX9_count 141 = .ok (.getfield 76, 3) := by decide +kernel
theorem dX9_count_144 : decode cX9_count 144 = .ok (.iconst 0, 1) := by decide +kernel
theorem dX9_count_145 : decode cX9_count 145 = .ok (.invokevirtual 251, 3) := by decide +kernel
theorem dX9_count_148 : decode cX9_count 148 = .ok (.ireturn, 1) := by decide +kernel
theorem dX9_count_149 : decode cX9_count 149 = .ok (.iconst (-1), 1) := by decide +kernel
theorem dX9_count_150 : decode cX9_count 150 = .ok (.ireturn, 1) := by decide +kernel
theorem dJ6_compare_7cf53_0 : decode cJ6_compare_7cf53 0 = .ok (.iload_n 0, 1) := by decide +kernel
theorem dJ6_compare_7cf53_1 : decode cJ6_compare_7cf53 1 = .ok (.iload_n 1, 1) := by decide +kernel
theorem dJ6_compare_7cf53_2 : decode cJ6_compare_7cf53 2 = .ok (.if_icmp .ge 7, 3) := by decide +kernel
theorem dJ6_compare_7cf53_5 : decode cJ6_compare_7cf53 5 = .ok (.iconst (-1), 1) := by decide +kernel
theorem dJ6_compare_7cf53_6 : decode cJ6_compare_7cf53 6 = .ok (.goto 13, 3) := by decide +kernel
theorem dJ6_compare_7cf53_9 : decode cJ6_compare_7cf53 9 = .ok (.iload_n 0, 1) := by decide +kernel
theorem dJ6_compare_7cf53_10 : decode cJ6_compare_7cf53 10 = .ok (.iload_n 1, 1) := by decide +kernel
theorem dJ6_compare_7cf53_11 : decode cJ6_compare_7cf53 11 = .ok (.if_icmp .ne 7, 3) := by decide +kernel
theorem dJ6_compare_7cf53_14 : decode cJ6_compare_7cf53 14 = .ok (.iconst 0, 1) := by decide +kernel
theorem dJ6_compare_7cf53_15 : decode cJ6_compare_7cf53 15 = .ok (.goto 4, 3) := by decide +kernel
theorem dJ6_compare_7cf53_18 : decode cJ6_compare_7cf53 18 = .ok (.iconst 1, 1) := by decide +kernel
theorem dJ6_compare_7cf53_19 : decode cJ6_compare_7cf53 19 = .ok (.ireturn, 1) := by decide +kernel
theorem dJ6_bitCount_0f7a4_0 : decode cJ6_bitCount_0f7a4 0 = .ok (.iload_n 0, 1) := by decide +kernel
theorem dJ6_bitCount_0f7a4_1 : decode cJ6_bitCount_0f7a4 1 = .ok (.iload_n 0, 1) := by decide +kernel
theorem dJ6_bitCount_0f7a4_2 : decode cJ6_bitCount_0f7a4 2 = .ok (.iconst 1, 1) := by decide +kernel
theorem dJ6_bitCount_0f7a4_3 : decode cJ6_bitCount_0f7a4 3 = .ok (.iushr, 1) := by decide +kernel
theorem dJ6_bitCount_0f7a4_4 : decode cJ6_bitCount_0f7a4 4 = .ok (.ldc_w 265, 3) := by decide +kernel
theorem dJ6_bitCount_0f7a4_7 : decode cJ6_bitCount_0f7a4 7 = .ok (.iand, 1) := by decide +kernel
theorem dJ6_bitCount_0f7a4_8 : decode cJ6_bitCount_0f7a4 8 = .ok (.isub, 1) := by decide +kernel
theorem dJ6_bitCount_0f7a4_9 : decode cJ6_bitCount_0f7a4 9 = .ok (.istore_n 0, 1) := by decide +kernel
theorem dJ6_bitCount_0f7a4_10 : decode cJ6_bitCount_0f7a4 10 = .ok (.iload_n 0, 1) := by decide +kernel
theorem dJ6_bitCount_0f7a4_11 : decode cJ6_bitCount_0f7a4 11 = .ok (.ldc_w 266, 3) := by decide +kernel
theorem dJ6_bitCount_0f7a4_14 : decode cJ6_bitCount_0f7a4 14 = .ok (.iand, 1) := by decide +kernel
theorem dJ6_bitCount_0f7a4_15 : decode cJ6_bitCount_0f7a4 15 = .ok (.iload_n 0, 1) := by decide +kernel
theorem dJ6_bitCount_0f7a4_16 : decode cJ6_bitCount_0f7a4 16 = .ok (.iconst 2, 1) := by decide +kernel
theorem dJ6_bitCount_0f7a4_17 : decode cJ6_bitCount_0f7a4 17 = .ok (.iushr, 1) := by decide +kernel
theorem dJ6_bitCount_0f7a4_18 : decode cJ6_bitCount_0f7a4 18 = .ok (.ldc_w 266, 3) := by decide +kernel
theorem dJ6_bitCount_0f7a4_21 : decode cJ6_bitCount_0f7a4 21 = .ok (.iand, 1) := by decide +kernel
theorem dJ6_bitCount_0f7a4_22 : decode cJ6_bitCount_0f7a4 22 = .ok (.iadd, 1) := by decide +kernel
theorem dJ6_bitCount_0f7a4_23 : decode cJ6_bitCount_0f7a4 23 = .ok (.istore_n 0, 1) := by decide +kernel
theorem dJ6_bitCount_0f7a4_24 : decode cJ6_bitCount_0f7a4 24 = .ok (.iload_n 0, 1) := by decide +kernel
theorem dJ6_bitCount_0f7a4_25 : decode cJ6_bitCount_0f7a4 25 = .ok (.iload_n 0, 1) := by decide +kernel
theorem dJ6_bitCount_0f7a4_26 : decode cJ6_bitCount_0f7a4 26 = .ok (.iconst 4, 1) := by decide +kernel
theorem dJ6_bitCount_0f7a4_27 : decode cJ6_bitCount_0f7a4 27 = .ok (.iushr, 1) := by decide +kernel
theorem dJ6_bitCount_0f7a4_28 : decode cJ6_bitCount_0f7a4 28 = .ok (.iadd, 1) := by decide +kernel
theorem dJ6_bitCount_0f7a4_29 : decode cJ6_bitCount_0f7a4 29 = .ok (.ldc_w 267, 3) := by decide +kernel
theorem dJ6_bitCount_0f7a4_32 : decode cJ6_bitCount_0f7a4 32 = .ok (.iand, 1) := by decide +kernel
theorem dJ6_bitCount_0f7a4_33 : decode cJ6_bitCount_0f7a4 33 = .ok (.istore_n 0, 1) := by decide +kernel
theorem dJ6_bitCount_0f7a4_34 : decode cJ6_bitCount_0f7a4 34 = .ok (.iload_n 0, 1) := by decide +kernel
theorem dJ6_bitCount_0f7a4_35 : decode cJ6_bitCount_0f7a4 35 = .ok (.iload_n 0, 1) := by decide +kernel
theorem dJ6_bitCount_0f7a4_36 : decode cJ6_bitCount_0f7a4 36 = .ok (.bipush 8, 2) := by decide +kernel
theorem dJ6_bitCount_0f7a4_38 : decode cJ6_bitCount_0f7a4 38 = .ok (.iushr, 1) := by decide +kernel
theorem dJ6_bitCount_0f7a4_39 : decode cJ6_bitCount_0f7a4 39 = .ok (.iadd, 1) := by decide +kernel
theorem dJ6_bitCount_0f7a4_40 : decode cJ6_bitCount_0f7a4 40 = .ok (.istore_n 0, 1) := by decide +kernel
theorem dJ6_bitCount_0f7a4_41 : decode cJ6_bitCount_0f7a4 41 = .ok (.iload_n 0, 1) := by decide +kernel
theorem dJ6_bitCount_0f7a4_42 : decode cJ6_bitCount_0f7a4 42 = .ok (.iload_n 0, 1) := by decide +kernel
theorem dJ6_bitCount_0f7a4_43 : decode cJ6_bitCount_0f7a4 43 = .ok (.bipush 16, 2) := by decide +kernel
theorem dJ6_bitCount_0f7a4_45 : decode cJ6_bitCount_0f7a4 45 = .ok (.iushr, 1) := by decide +kernel
theorem dJ6_bitCount_0f7a4_46 : decode cJ6_bitCount_0f7a4 46 = .ok (.iadd, 1) := by decide +kernel
theorem dJ6_bitCount_0f7a4_47 : decode cJ6_bitCount_0f7a4 47 = .ok (.istore_n 0, 1) := by decide +kernel
theorem dJ6_bitCount_0f7a4_48 : decode cJ6_bitCount_0f7a4 48 = .ok (.iload_n 0, 1) := by decide +kernel
theorem dJ6_bitCount_0f7a4_49 : decode cJ6_bitCount_0f7a4 49 = .ok (.bipush 63, 2) := by decide +kernel
theorem dJ6_bitCount_0f7a4_51 : decode cJ6_bitCount_0f7a4 51 = .ok (.iand, 1) := by decide +kernel
theorem dJ6_bitCount_0f7a4_52 : decode cJ6_bitCount_0f7a4 52 = .ok (.ireturn, 1) := by decide +kernel
theorem dJ9_max_7cf53_0 : decode cJ9_max_7cf53 0 = .ok (.iload_n 0, 1) := by decide +kernel
theorem dJ9_max_7cf53_1 : decode cJ9_max_7cf53 1 = .ok (.iload_n 1, 1) := by decide +kernel
theorem dJ9_max_7cf53_2 : decode cJ9_max_7cf53 2 = .ok (.if_icmp .lt 7, 3) := by decide +kernel
theorem dJ9_max_7cf53_5 : decode cJ9_max_7cf53 5 = .ok (.iload_n 0, 1) := by decide +kernel
theorem dJ9_max_7cf53_6 : decode cJ9_max_7cf53 6 = .ok (.goto 4, 3) := by decide +kernel
theorem dJ9_max_7cf53_9 : decode cJ9_max_7cf53 9 = .ok (.iload_n 1, 1) := by decide +kernel
theorem dJ9_max_7cf53_10 : decode cJ9_max_7cf53 10 = .ok (.ireturn, 1) := by decide +kernel
theorem dJ9_min_7cf53_0 : decode cJ9_min_7cf53 0 = .ok (.iload_n 0, 1) := by decide +kernel
theorem dJ9_min_7cf53_1 : decode cJ9_min_7cf53 1 = .ok (.iload_n 1, 1) := by decide +kernel
theorem dJ9_min_7cf53_2 : decode cJ9_min_7cf53 2 = .ok (.if_icmp .gt 7, 3) := by decide +kernel
theorem dJ9_min_7cf53_5 : decode cJ9_min_7cf53 5 = .ok (.iload_n 0, 1) := by decide +kernel
theorem dJ9_min_7cf53_6 : decode cJ9_min_7cf53 6 = .ok (.goto 4, 3) := by decide +kernel
theorem dJ9_min_7cf53_9 : decode cJ9_min_7cf53 9 = .ok (.iload_n 1, 1) := by decide +kernel
theorem dJ9_min_7cf53_10 : decode cJ9_min_7cf53 10 = .ok (.ireturn, 1) := by decide +kernel
